section
-- ===== PART A: goes FIRST, ahead of the names: the tables' words, and 'selects' of the private methods out of them =====
/-- a private method of a class that the tables say can be made, by its rows of tables_1 -/
def lw_okq (q : MethodName × Nat) : Prop := (q.1.cls ≠ "java/lang/invoke/MethodHandle" ∧ q.1.cls ≠ "java/lang/invoke/VarHandle") ∧ Cond.instantiable q.1.cls q.2 ∈ tables_1 ∧ Cond.privateMethod q.1 ∈ tables_1 ∧ Cond.instanceMethod q.1 ∈ tables_1
theorem lw_p0 : lw_okq (⟨"SwitchTower$Machine", "refresh", "()V"⟩, 10) := ⟨⟨by decide +kernel, by decide +kernel⟩, List.mem_of_getElem? (i := 46) (by decide +kernel), List.mem_of_getElem? (i := 374) (by decide +kernel), List.mem_of_getElem? (i := 375) (by decide +kernel)⟩
theorem lw_p1 : lw_okq (⟨"SwitchTower$Machine", "goals", "(I)I"⟩, 10) := ⟨⟨by decide +kernel, by decide +kernel⟩, List.mem_of_getElem? (i := 46) (by decide +kernel), List.mem_of_getElem? (i := 378) (by decide +kernel), List.mem_of_getElem? (i := 379) (by decide +kernel)⟩
theorem lw_p2 : lw_okq (⟨"SwitchTower$Machine", "writesUnlike", "(I)Z"⟩, 10) := ⟨⟨by decide +kernel, by decide +kernel⟩, List.mem_of_getElem? (i := 46) (by decide +kernel), List.mem_of_getElem? (i := 382) (by decide +kernel), List.mem_of_getElem? (i := 383) (by decide +kernel)⟩
theorem lw_p3 : lw_okq (⟨"SwitchTower$Machine", "listMarks", "()V"⟩, 10) := ⟨⟨by decide +kernel, by decide +kernel⟩, List.mem_of_getElem? (i := 46) (by decide +kernel), List.mem_of_getElem? (i := 386) (by decide +kernel), List.mem_of_getElem? (i := 387) (by decide +kernel)⟩
theorem lw_p4 : lw_okq (⟨"SwitchTower$Machine", "wireMarks", "(II)V"⟩, 10) := ⟨⟨by decide +kernel, by decide +kernel⟩, List.mem_of_getElem? (i := 46) (by decide +kernel), List.mem_of_getElem? (i := 394) (by decide +kernel), List.mem_of_getElem? (i := 395) (by decide +kernel)⟩
theorem lw_p5 : lw_okq (⟨"SwitchTower", "forgetAnswers", "()V"⟩, 9) := ⟨⟨by decide +kernel, by decide +kernel⟩, List.mem_of_getElem? (i := 15) (by decide +kernel), List.mem_of_getElem? (i := 398) (by decide +kernel), List.mem_of_getElem? (i := 399) (by decide +kernel)⟩
theorem lw_p6 : lw_okq (⟨"SwitchTower", "hasLostWayBack", "(LSwitchTower$Word;)Z"⟩, 9) := ⟨⟨by decide +kernel, by decide +kernel⟩, List.mem_of_getElem? (i := 15) (by decide +kernel), List.mem_of_getElem? (i := 451) (by decide +kernel), List.mem_of_getElem? (i := 452) (by decide +kernel)⟩
theorem lw_p7 : lw_okq (⟨"SwitchTower", "refusalOfGiven", "()I"⟩, 9) := ⟨⟨by decide +kernel, by decide +kernel⟩, List.mem_of_getElem? (i := 15) (by decide +kernel), List.mem_of_getElem? (i := 475) (by decide +kernel), List.mem_of_getElem? (i := 476) (by decide +kernel)⟩
theorem lw_p8 : lw_okq (⟨"SwitchTower", "join", "(LSwitchTower$Word;LSwitchTower$Word;I)I"⟩, 9) := ⟨⟨by decide +kernel, by decide +kernel⟩, List.mem_of_getElem? (i := 15) (by decide +kernel), List.mem_of_getElem? (i := 486) (by decide +kernel), List.mem_of_getElem? (i := 487) (by decide +kernel)⟩
theorem lw_p9 : lw_okq (⟨"SwitchTower", "bring", "(LSwitchTower$Word;I)I"⟩, 9) := ⟨⟨by decide +kernel, by decide +kernel⟩, List.mem_of_getElem? (i := 15) (by decide +kernel), List.mem_of_getElem? (i := 494) (by decide +kernel), List.mem_of_getElem? (i := 495) (by decide +kernel)⟩
theorem lw_p10 : lw_okq (⟨"SwitchTower", "hasBackStates", "(LSwitchTower$Word;)Z"⟩, 9) := ⟨⟨by decide +kernel, by decide +kernel⟩, List.mem_of_getElem? (i := 15) (by decide +kernel), List.mem_of_getElem? (i := 521) (by decide +kernel), List.mem_of_getElem? (i := 522) (by decide +kernel)⟩
theorem lw_p11 : lw_okq (⟨"SwitchTower$Machine", "hasLetters", "(II)Z"⟩, 10) := ⟨⟨by decide +kernel, by decide +kernel⟩, List.mem_of_getElem? (i := 46) (by decide +kernel), List.mem_of_getElem? (i := 533) (by decide +kernel), List.mem_of_getElem? (i := 534) (by decide +kernel)⟩
theorem lw_p12 : lw_okq (⟨"SwitchTower", "walkDown", "(LSwitchTower$Word;II)I"⟩, 9) := ⟨⟨by decide +kernel, by decide +kernel⟩, List.mem_of_getElem? (i := 15) (by decide +kernel), List.mem_of_getElem? (i := 537) (by decide +kernel), List.mem_of_getElem? (i := 538) (by decide +kernel)⟩
theorem lw_p13 : lw_okq (⟨"SwitchTower", "gather", "(II)I"⟩, 9) := ⟨⟨by decide +kernel, by decide +kernel⟩, List.mem_of_getElem? (i := 15) (by decide +kernel), List.mem_of_getElem? (i := 555) (by decide +kernel), List.mem_of_getElem? (i := 556) (by decide +kernel)⟩
theorem lw_p14 : lw_okq (⟨"SwitchTower$KeyTable", "slotOf", "(JI)I"⟩, 5) := ⟨⟨by decide +kernel, by decide +kernel⟩, List.mem_of_getElem? (i := 140) (by decide +kernel), List.mem_of_getElem? (i := 577) (by decide +kernel), List.mem_of_getElem? (i := 578) (by decide +kernel)⟩
theorem lw_p15 : lw_okq (⟨"SwitchTower$Pool", "keepRound", "()V"⟩, 13) := ⟨⟨by decide +kernel, by decide +kernel⟩, List.mem_of_getElem? (i := 184) (by decide +kernel), List.mem_of_getElem? (i := 595) (by decide +kernel), List.mem_of_getElem? (i := 596) (by decide +kernel)⟩
def lw_privs_1 : List (MethodName × Nat) := [(⟨"SwitchTower$Machine", "refresh", "()V"⟩, 10), (⟨"SwitchTower$Machine", "goals", "(I)I"⟩, 10), (⟨"SwitchTower$Machine", "writesUnlike", "(I)Z"⟩, 10), (⟨"SwitchTower$Machine", "listMarks", "()V"⟩, 10), (⟨"SwitchTower$Machine", "wireMarks", "(II)V"⟩, 10), (⟨"SwitchTower", "forgetAnswers", "()V"⟩, 9), (⟨"SwitchTower", "hasLostWayBack", "(LSwitchTower$Word;)Z"⟩, 9), (⟨"SwitchTower", "refusalOfGiven", "()I"⟩, 9), (⟨"SwitchTower", "join", "(LSwitchTower$Word;LSwitchTower$Word;I)I"⟩, 9), (⟨"SwitchTower", "bring", "(LSwitchTower$Word;I)I"⟩, 9), (⟨"SwitchTower", "hasBackStates", "(LSwitchTower$Word;)Z"⟩, 9), (⟨"SwitchTower$Machine", "hasLetters", "(II)Z"⟩, 10), (⟨"SwitchTower", "walkDown", "(LSwitchTower$Word;II)I"⟩, 9), (⟨"SwitchTower", "gather", "(II)I"⟩, 9), (⟨"SwitchTower$KeyTable", "slotOf", "(JI)I"⟩, 5), (⟨"SwitchTower$Pool", "keepRound", "()V"⟩, 13)]
theorem lw_r1 : ∀ q ∈ lw_privs_1, lw_okq q := List.forall_mem_cons.mpr ⟨lw_p0, List.forall_mem_cons.mpr ⟨lw_p1, List.forall_mem_cons.mpr ⟨lw_p2, List.forall_mem_cons.mpr ⟨lw_p3, List.forall_mem_cons.mpr ⟨lw_p4, List.forall_mem_cons.mpr ⟨lw_p5, List.forall_mem_cons.mpr ⟨lw_p6, List.forall_mem_cons.mpr ⟨lw_p7, List.forall_mem_cons.mpr ⟨lw_p8, List.forall_mem_cons.mpr ⟨lw_p9, List.forall_mem_cons.mpr ⟨lw_p10, List.forall_mem_cons.mpr ⟨lw_p11, List.forall_mem_cons.mpr ⟨lw_p12, List.forall_mem_cons.mpr ⟨lw_p13, List.forall_mem_cons.mpr ⟨lw_p14, List.forall_mem_cons.mpr ⟨lw_p15, fun _ h => absurd h List.not_mem_nil⟩⟩⟩⟩⟩⟩⟩⟩⟩⟩⟩⟩⟩⟩⟩⟩
theorem lw_p16 : lw_okq (⟨"SwitchTower$Pool", "refine", "()V"⟩, 13) := ⟨⟨by decide +kernel, by decide +kernel⟩, List.mem_of_getElem? (i := 184) (by decide +kernel), List.mem_of_getElem? (i := 602) (by decide +kernel), List.mem_of_getElem? (i := 603) (by decide +kernel)⟩
theorem lw_p17 : lw_okq (⟨"SwitchTower$Pool", "arePartedBy", "(III)Z"⟩, 13) := ⟨⟨by decide +kernel, by decide +kernel⟩, List.mem_of_getElem? (i := 184) (by decide +kernel), List.mem_of_getElem? (i := 626) (by decide +kernel), List.mem_of_getElem? (i := 627) (by decide +kernel)⟩
theorem lw_p18 : lw_okq (⟨"SwitchTower$Pool", "firstPartingLetter", "(III)I"⟩, 13) := ⟨⟨by decide +kernel, by decide +kernel⟩, List.mem_of_getElem? (i := 184) (by decide +kernel), List.mem_of_getElem? (i := 630) (by decide +kernel), List.mem_of_getElem? (i := 631) (by decide +kernel)⟩
theorem lw_p19 : lw_okq (⟨"SwitchTower$Pool", "firstUnlikeLetter", "(I)I"⟩, 13) := ⟨⟨by decide +kernel, by decide +kernel⟩, List.mem_of_getElem? (i := 184) (by decide +kernel), List.mem_of_getElem? (i := 634) (by decide +kernel), List.mem_of_getElem? (i := 635) (by decide +kernel)⟩
theorem lw_p20 : lw_okq (⟨"SwitchTower$Levels", "buildBranch", "(LSwitchTower$Machine;III)V"⟩, 8) := ⟨⟨by decide +kernel, by decide +kernel⟩, List.mem_of_getElem? (i := 101) (by decide +kernel), List.mem_of_getElem? (i := 658) (by decide +kernel), List.mem_of_getElem? (i := 659) (by decide +kernel)⟩
theorem lw_p21 : lw_okq (⟨"SwitchTower$Levels", "ringLength", "(LSwitchTower$Word;II)I"⟩, 8) := ⟨⟨by decide +kernel, by decide +kernel⟩, List.mem_of_getElem? (i := 101) (by decide +kernel), List.mem_of_getElem? (i := 671) (by decide +kernel), List.mem_of_getElem? (i := 672) (by decide +kernel)⟩
theorem lw_p22 : lw_okq (⟨"SwitchTower", "levelOf", "(I)I"⟩, 9) := ⟨⟨by decide +kernel, by decide +kernel⟩, List.mem_of_getElem? (i := 15) (by decide +kernel), List.mem_of_getElem? (i := 703) (by decide +kernel), List.mem_of_getElem? (i := 704) (by decide +kernel)⟩
theorem lw_p23 : lw_okq (⟨"SwitchTower", "walkFrom", "(II)I"⟩, 9) := ⟨⟨by decide +kernel, by decide +kernel⟩, List.mem_of_getElem? (i := 15) (by decide +kernel), List.mem_of_getElem? (i := 707) (by decide +kernel), List.mem_of_getElem? (i := 708) (by decide +kernel)⟩
theorem lw_p24 : lw_okq (⟨"SwitchTower$LevelGroup", "behind", "(JJ)J"⟩, 4) := ⟨⟨by decide +kernel, by decide +kernel⟩, List.mem_of_getElem? (i := 134) (by decide +kernel), List.mem_of_getElem? (i := 754) (by decide +kernel), List.mem_of_getElem? (i := 755) (by decide +kernel)⟩
theorem lw_p25 : lw_okq (⟨"SwitchTower$LevelGroup", "addBlock", "(IJ)Z"⟩, 4) := ⟨⟨by decide +kernel, by decide +kernel⟩, List.mem_of_getElem? (i := 134) (by decide +kernel), List.mem_of_getElem? (i := 759) (by decide +kernel), List.mem_of_getElem? (i := 760) (by decide +kernel)⟩
theorem lw_p26 : lw_okq (⟨"SwitchTower$ShortWords", "enterWithin", "(LSwitchTower$Machine;I)Z"⟩, 10) := ⟨⟨by decide +kernel, by decide +kernel⟩, List.mem_of_getElem? (i := 238) (by decide +kernel), List.mem_of_getElem? (i := 771) (by decide +kernel), List.mem_of_getElem? (i := 772) (by decide +kernel)⟩
theorem lw_p27 : lw_okq (⟨"SwitchTower$ShortWords", "beginWithEmpty", "()V"⟩, 10) := ⟨⟨by decide +kernel, by decide +kernel⟩, List.mem_of_getElem? (i := 238) (by decide +kernel), List.mem_of_getElem? (i := 775) (by decide +kernel), List.mem_of_getElem? (i := 776) (by decide +kernel)⟩
theorem lw_p28 : lw_okq (⟨"SwitchTower$ShortWords", "extend", "(LSwitchTower$Machine;I)Z"⟩, 10) := ⟨⟨by decide +kernel, by decide +kernel⟩, List.mem_of_getElem? (i := 238) (by decide +kernel), List.mem_of_getElem? (i := 785) (by decide +kernel), List.mem_of_getElem? (i := 786) (by decide +kernel)⟩
theorem lw_p29 : lw_okq (⟨"SwitchTower$ShortWords", "isLaw", "(I)Z"⟩, 10) := ⟨⟨by decide +kernel, by decide +kernel⟩, List.mem_of_getElem? (i := 238) (by decide +kernel), List.mem_of_getElem? (i := 801) (by decide +kernel), List.mem_of_getElem? (i := 802) (by decide +kernel)⟩
theorem lw_p30 : lw_okq (⟨"SwitchTower$ShortWords", "lookAtParts", "(LSwitchTower$Machine;II)Z"⟩, 10) := ⟨⟨by decide +kernel, by decide +kernel⟩, List.mem_of_getElem? (i := 238) (by decide +kernel), List.mem_of_getElem? (i := 826) (by decide +kernel), List.mem_of_getElem? (i := 827) (by decide +kernel)⟩
theorem lw_p31 : lw_okq (⟨"SwitchTower$ShortWords", "addUnlike", "()Z"⟩, 10) := ⟨⟨by decide +kernel, by decide +kernel⟩, List.mem_of_getElem? (i := 238) (by decide +kernel), List.mem_of_getElem? (i := 833) (by decide +kernel), List.mem_of_getElem? (i := 834) (by decide +kernel)⟩
def lw_privs_2 : List (MethodName × Nat) := [(⟨"SwitchTower$Pool", "refine", "()V"⟩, 13), (⟨"SwitchTower$Pool", "arePartedBy", "(III)Z"⟩, 13), (⟨"SwitchTower$Pool", "firstPartingLetter", "(III)I"⟩, 13), (⟨"SwitchTower$Pool", "firstUnlikeLetter", "(I)I"⟩, 13), (⟨"SwitchTower$Levels", "buildBranch", "(LSwitchTower$Machine;III)V"⟩, 8), (⟨"SwitchTower$Levels", "ringLength", "(LSwitchTower$Word;II)I"⟩, 8), (⟨"SwitchTower", "levelOf", "(I)I"⟩, 9), (⟨"SwitchTower", "walkFrom", "(II)I"⟩, 9), (⟨"SwitchTower$LevelGroup", "behind", "(JJ)J"⟩, 4), (⟨"SwitchTower$LevelGroup", "addBlock", "(IJ)Z"⟩, 4), (⟨"SwitchTower$ShortWords", "enterWithin", "(LSwitchTower$Machine;I)Z"⟩, 10), (⟨"SwitchTower$ShortWords", "beginWithEmpty", "()V"⟩, 10), (⟨"SwitchTower$ShortWords", "extend", "(LSwitchTower$Machine;I)Z"⟩, 10), (⟨"SwitchTower$ShortWords", "isLaw", "(I)Z"⟩, 10), (⟨"SwitchTower$ShortWords", "lookAtParts", "(LSwitchTower$Machine;II)Z"⟩, 10), (⟨"SwitchTower$ShortWords", "addUnlike", "()Z"⟩, 10)]
theorem lw_r2 : ∀ q ∈ lw_privs_2, lw_okq q := List.forall_mem_cons.mpr ⟨lw_p16, List.forall_mem_cons.mpr ⟨lw_p17, List.forall_mem_cons.mpr ⟨lw_p18, List.forall_mem_cons.mpr ⟨lw_p19, List.forall_mem_cons.mpr ⟨lw_p20, List.forall_mem_cons.mpr ⟨lw_p21, List.forall_mem_cons.mpr ⟨lw_p22, List.forall_mem_cons.mpr ⟨lw_p23, List.forall_mem_cons.mpr ⟨lw_p24, List.forall_mem_cons.mpr ⟨lw_p25, List.forall_mem_cons.mpr ⟨lw_p26, List.forall_mem_cons.mpr ⟨lw_p27, List.forall_mem_cons.mpr ⟨lw_p28, List.forall_mem_cons.mpr ⟨lw_p29, List.forall_mem_cons.mpr ⟨lw_p30, List.forall_mem_cons.mpr ⟨lw_p31, fun _ h => absurd h List.not_mem_nil⟩⟩⟩⟩⟩⟩⟩⟩⟩⟩⟩⟩⟩⟩⟩⟩
theorem lw_p32 : lw_okq (⟨"SwitchTowerModel", "isBack", "(I)Z"⟩, 42) := ⟨⟨by decide +kernel, by decide +kernel⟩, List.mem_of_getElem? (i := 842) (by decide +kernel), List.mem_of_getElem? (i := 1016) (by decide +kernel), List.mem_of_getElem? (i := 1017) (by decide +kernel)⟩
theorem lw_p33 : lw_okq (⟨"SwitchTowerModel", "isFair", "(I)Z"⟩, 42) := ⟨⟨by decide +kernel, by decide +kernel⟩, List.mem_of_getElem? (i := 842) (by decide +kernel), List.mem_of_getElem? (i := 1020) (by decide +kernel), List.mem_of_getElem? (i := 1021) (by decide +kernel)⟩
theorem lw_p34 : lw_okq (⟨"SwitchTowerModel", "findTokens", "()V"⟩, 42) := ⟨⟨by decide +kernel, by decide +kernel⟩, List.mem_of_getElem? (i := 842) (by decide +kernel), List.mem_of_getElem? (i := 1032) (by decide +kernel), List.mem_of_getElem? (i := 1033) (by decide +kernel)⟩
theorem lw_p35 : lw_okq (⟨"SwitchTowerModel", "isWhole", "()Z"⟩, 42) := ⟨⟨by decide +kernel, by decide +kernel⟩, List.mem_of_getElem? (i := 842) (by decide +kernel), List.mem_of_getElem? (i := 1036) (by decide +kernel), List.mem_of_getElem? (i := 1037) (by decide +kernel)⟩
theorem lw_p36 : lw_okq (⟨"SwitchTowerModel", "copy", "(II)V"⟩, 42) := ⟨⟨by decide +kernel, by decide +kernel⟩, List.mem_of_getElem? (i := 842) (by decide +kernel), List.mem_of_getElem? (i := 1047) (by decide +kernel), List.mem_of_getElem? (i := 1048) (by decide +kernel)⟩
theorem lw_p37 : lw_okq (⟨"SwitchTowerModel", "add", "(II)V"⟩, 42) := ⟨⟨by decide +kernel, by decide +kernel⟩, List.mem_of_getElem? (i := 842) (by decide +kernel), List.mem_of_getElem? (i := 1051) (by decide +kernel), List.mem_of_getElem? (i := 1052) (by decide +kernel)⟩
theorem lw_p38 : lw_okq (⟨"SwitchTowerModel", "takeRow", "(II)Z"⟩, 42) := ⟨⟨by decide +kernel, by decide +kernel⟩, List.mem_of_getElem? (i := 842) (by decide +kernel), List.mem_of_getElem? (i := 1079) (by decide +kernel), List.mem_of_getElem? (i := 1080) (by decide +kernel)⟩
theorem lw_p39 : lw_okq (⟨"SwitchTowerModel", "rewrite", "(I)V"⟩, 42) := ⟨⟨by decide +kernel, by decide +kernel⟩, List.mem_of_getElem? (i := 842) (by decide +kernel), List.mem_of_getElem? (i := 1083) (by decide +kernel), List.mem_of_getElem? (i := 1084) (by decide +kernel)⟩
theorem lw_p40 : lw_okq (⟨"SwitchTowerModel", "step", "(II)V"⟩, 42) := ⟨⟨by decide +kernel, by decide +kernel⟩, List.mem_of_getElem? (i := 842) (by decide +kernel), List.mem_of_getElem? (i := 1087) (by decide +kernel), List.mem_of_getElem? (i := 1088) (by decide +kernel)⟩
theorem lw_p41 : lw_okq (⟨"SwitchTowerModel", "rowNumber", "()I"⟩, 42) := ⟨⟨by decide +kernel, by decide +kernel⟩, List.mem_of_getElem? (i := 842) (by decide +kernel), List.mem_of_getElem? (i := 1091) (by decide +kernel), List.mem_of_getElem? (i := 1092) (by decide +kernel)⟩
theorem lw_p42 : lw_okq (⟨"SwitchTowerModel", "partAtRow", "(II)V"⟩, 42) := ⟨⟨by decide +kernel, by decide +kernel⟩, List.mem_of_getElem? (i := 842) (by decide +kernel), List.mem_of_getElem? (i := 1099) (by decide +kernel), List.mem_of_getElem? (i := 1100) (by decide +kernel)⟩
theorem lw_p43 : lw_okq (⟨"SwitchTowerModel", "partAt", "(III)I"⟩, 42) := ⟨⟨by decide +kernel, by decide +kernel⟩, List.mem_of_getElem? (i := 842) (by decide +kernel), List.mem_of_getElem? (i := 1103) (by decide +kernel), List.mem_of_getElem? (i := 1104) (by decide +kernel)⟩
theorem lw_p44 : lw_okq (⟨"SwitchTowerModel", "takeTwo", "(II)I"⟩, 42) := ⟨⟨by decide +kernel, by decide +kernel⟩, List.mem_of_getElem? (i := 842) (by decide +kernel), List.mem_of_getElem? (i := 1111) (by decide +kernel), List.mem_of_getElem? (i := 1112) (by decide +kernel)⟩
theorem lw_p45 : lw_okq (⟨"SwitchTowerModel", "beginHeap", "()V"⟩, 42) := ⟨⟨by decide +kernel, by decide +kernel⟩, List.mem_of_getElem? (i := 842) (by decide +kernel), List.mem_of_getElem? (i := 1115) (by decide +kernel), List.mem_of_getElem? (i := 1116) (by decide +kernel)⟩
theorem lw_p46 : lw_okq (⟨"SwitchTowerModel", "toHeap", "(I)I"⟩, 42) := ⟨⟨by decide +kernel, by decide +kernel⟩, List.mem_of_getElem? (i := 842) (by decide +kernel), List.mem_of_getElem? (i := 1119) (by decide +kernel), List.mem_of_getElem? (i := 1120) (by decide +kernel)⟩
theorem lw_p47 : lw_okq (⟨"SwitchTowerModel", "findInHeap", "(I)I"⟩, 42) := ⟨⟨by decide +kernel, by decide +kernel⟩, List.mem_of_getElem? (i := 842) (by decide +kernel), List.mem_of_getElem? (i := 1123) (by decide +kernel), List.mem_of_getElem? (i := 1124) (by decide +kernel)⟩
def lw_privs_3 : List (MethodName × Nat) := [(⟨"SwitchTowerModel", "isBack", "(I)Z"⟩, 42), (⟨"SwitchTowerModel", "isFair", "(I)Z"⟩, 42), (⟨"SwitchTowerModel", "findTokens", "()V"⟩, 42), (⟨"SwitchTowerModel", "isWhole", "()Z"⟩, 42), (⟨"SwitchTowerModel", "copy", "(II)V"⟩, 42), (⟨"SwitchTowerModel", "add", "(II)V"⟩, 42), (⟨"SwitchTowerModel", "takeRow", "(II)Z"⟩, 42), (⟨"SwitchTowerModel", "rewrite", "(I)V"⟩, 42), (⟨"SwitchTowerModel", "step", "(II)V"⟩, 42), (⟨"SwitchTowerModel", "rowNumber", "()I"⟩, 42), (⟨"SwitchTowerModel", "partAtRow", "(II)V"⟩, 42), (⟨"SwitchTowerModel", "partAt", "(III)I"⟩, 42), (⟨"SwitchTowerModel", "takeTwo", "(II)I"⟩, 42), (⟨"SwitchTowerModel", "beginHeap", "()V"⟩, 42), (⟨"SwitchTowerModel", "toHeap", "(I)I"⟩, 42), (⟨"SwitchTowerModel", "findInHeap", "(I)I"⟩, 42)]
theorem lw_r3 : ∀ q ∈ lw_privs_3, lw_okq q := List.forall_mem_cons.mpr ⟨lw_p32, List.forall_mem_cons.mpr ⟨lw_p33, List.forall_mem_cons.mpr ⟨lw_p34, List.forall_mem_cons.mpr ⟨lw_p35, List.forall_mem_cons.mpr ⟨lw_p36, List.forall_mem_cons.mpr ⟨lw_p37, List.forall_mem_cons.mpr ⟨lw_p38, List.forall_mem_cons.mpr ⟨lw_p39, List.forall_mem_cons.mpr ⟨lw_p40, List.forall_mem_cons.mpr ⟨lw_p41, List.forall_mem_cons.mpr ⟨lw_p42, List.forall_mem_cons.mpr ⟨lw_p43, List.forall_mem_cons.mpr ⟨lw_p44, List.forall_mem_cons.mpr ⟨lw_p45, List.forall_mem_cons.mpr ⟨lw_p46, List.forall_mem_cons.mpr ⟨lw_p47, fun _ h => absurd h List.not_mem_nil⟩⟩⟩⟩⟩⟩⟩⟩⟩⟩⟩⟩⟩⟩⟩⟩
theorem lw_p48 : lw_okq (⟨"SwitchTowerModel", "grow", "()Z"⟩, 42) := ⟨⟨by decide +kernel, by decide +kernel⟩, List.mem_of_getElem? (i := 842) (by decide +kernel), List.mem_of_getElem? (i := 1127) (by decide +kernel), List.mem_of_getElem? (i := 1128) (by decide +kernel)⟩
theorem lw_p49 : lw_okq (⟨"SwitchTowerModel", "fromHeap", "(II)V"⟩, 42) := ⟨⟨by decide +kernel, by decide +kernel⟩, List.mem_of_getElem? (i := 842) (by decide +kernel), List.mem_of_getElem? (i := 1131) (by decide +kernel), List.mem_of_getElem? (i := 1132) (by decide +kernel)⟩
theorem lw_p50 : lw_okq (⟨"SwitchTowerModel", "partAll", "()I"⟩, 42) := ⟨⟨by decide +kernel, by decide +kernel⟩, List.mem_of_getElem? (i := 842) (by decide +kernel), List.mem_of_getElem? (i := 1135) (by decide +kernel), List.mem_of_getElem? (i := 1136) (by decide +kernel)⟩
theorem lw_p51 : lw_okq (⟨"SwitchTowerModel", "partOnce", "()I"⟩, 42) := ⟨⟨by decide +kernel, by decide +kernel⟩, List.mem_of_getElem? (i := 842) (by decide +kernel), List.mem_of_getElem? (i := 1139) (by decide +kernel), List.mem_of_getElem? (i := 1140) (by decide +kernel)⟩
theorem lw_p52 : lw_okq (⟨"SwitchTowerModel", "isSameNow", "(II)Z"⟩, 42) := ⟨⟨by decide +kernel, by decide +kernel⟩, List.mem_of_getElem? (i := 842) (by decide +kernel), List.mem_of_getElem? (i := 1143) (by decide +kernel), List.mem_of_getElem? (i := 1144) (by decide +kernel)⟩
theorem lw_p53 : lw_okq (⟨"SwitchTowerModel", "isParted", "(IIII)Z"⟩, 42) := ⟨⟨by decide +kernel, by decide +kernel⟩, List.mem_of_getElem? (i := 842) (by decide +kernel), List.mem_of_getElem? (i := 1151) (by decide +kernel), List.mem_of_getElem? (i := 1152) (by decide +kernel)⟩
theorem lw_p54 : lw_okq (⟨"SwitchTowerModel", "rowsOf", "(II)I"⟩, 42) := ⟨⟨by decide +kernel, by decide +kernel⟩, List.mem_of_getElem? (i := 842) (by decide +kernel), List.mem_of_getElem? (i := 1167) (by decide +kernel), List.mem_of_getElem? (i := 1168) (by decide +kernel)⟩
theorem lw_p55 : lw_okq (⟨"SwitchTowerModel", "isTokenBack", "(I)Z"⟩, 42) := ⟨⟨by decide +kernel, by decide +kernel⟩, List.mem_of_getElem? (i := 842) (by decide +kernel), List.mem_of_getElem? (i := 1171) (by decide +kernel), List.mem_of_getElem? (i := 1172) (by decide +kernel)⟩
theorem lw_p56 : lw_okq (⟨"SwitchTowerModel", "rowAt", "(II)V"⟩, 42) := ⟨⟨by decide +kernel, by decide +kernel⟩, List.mem_of_getElem? (i := 842) (by decide +kernel), List.mem_of_getElem? (i := 1175) (by decide +kernel), List.mem_of_getElem? (i := 1176) (by decide +kernel)⟩
theorem lw_p57 : lw_okq (⟨"SwitchTowerModel", "placeNow", "()I"⟩, 42) := ⟨⟨by decide +kernel, by decide +kernel⟩, List.mem_of_getElem? (i := 842) (by decide +kernel), List.mem_of_getElem? (i := 1179) (by decide +kernel), List.mem_of_getElem? (i := 1180) (by decide +kernel)⟩
theorem lw_p58 : lw_okq (⟨"SwitchTowerModel", "findLevel", "(I)V"⟩, 42) := ⟨⟨by decide +kernel, by decide +kernel⟩, List.mem_of_getElem? (i := 842) (by decide +kernel), List.mem_of_getElem? (i := 1191) (by decide +kernel), List.mem_of_getElem? (i := 1192) (by decide +kernel)⟩
theorem lw_p59 : lw_okq (⟨"SwitchTowerModel", "takeLevel", "(I)I"⟩, 42) := ⟨⟨by decide +kernel, by decide +kernel⟩, List.mem_of_getElem? (i := 842) (by decide +kernel), List.mem_of_getElem? (i := 1200) (by decide +kernel), List.mem_of_getElem? (i := 1201) (by decide +kernel)⟩
theorem lw_p60 : lw_okq (⟨"SwitchTowerModel", "findFar", "(I)V"⟩, 42) := ⟨⟨by decide +kernel, by decide +kernel⟩, List.mem_of_getElem? (i := 842) (by decide +kernel), List.mem_of_getElem? (i := 1204) (by decide +kernel), List.mem_of_getElem? (i := 1205) (by decide +kernel)⟩
theorem lw_p61 : lw_okq (⟨"SwitchTowerModel", "takeRows", "(II)I"⟩, 42) := ⟨⟨by decide +kernel, by decide +kernel⟩, List.mem_of_getElem? (i := 842) (by decide +kernel), List.mem_of_getElem? (i := 1212) (by decide +kernel), List.mem_of_getElem? (i := 1213) (by decide +kernel)⟩
theorem lw_p62 : lw_okq (⟨"SwitchTowerModel", "findFarTo", "(I)V"⟩, 42) := ⟨⟨by decide +kernel, by decide +kernel⟩, List.mem_of_getElem? (i := 842) (by decide +kernel), List.mem_of_getElem? (i := 1221) (by decide +kernel), List.mem_of_getElem? (i := 1222) (by decide +kernel)⟩
theorem lw_p63 : lw_okq (⟨"SwitchTowerModel", "toGroup", "(J)Z"⟩, 42) := ⟨⟨by decide +kernel, by decide +kernel⟩, List.mem_of_getElem? (i := 842) (by decide +kernel), List.mem_of_getElem? (i := 1234) (by decide +kernel), List.mem_of_getElem? (i := 1235) (by decide +kernel)⟩
def lw_privs_4 : List (MethodName × Nat) := [(⟨"SwitchTowerModel", "grow", "()Z"⟩, 42), (⟨"SwitchTowerModel", "fromHeap", "(II)V"⟩, 42), (⟨"SwitchTowerModel", "partAll", "()I"⟩, 42), (⟨"SwitchTowerModel", "partOnce", "()I"⟩, 42), (⟨"SwitchTowerModel", "isSameNow", "(II)Z"⟩, 42), (⟨"SwitchTowerModel", "isParted", "(IIII)Z"⟩, 42), (⟨"SwitchTowerModel", "rowsOf", "(II)I"⟩, 42), (⟨"SwitchTowerModel", "isTokenBack", "(I)Z"⟩, 42), (⟨"SwitchTowerModel", "rowAt", "(II)V"⟩, 42), (⟨"SwitchTowerModel", "placeNow", "()I"⟩, 42), (⟨"SwitchTowerModel", "findLevel", "(I)V"⟩, 42), (⟨"SwitchTowerModel", "takeLevel", "(I)I"⟩, 42), (⟨"SwitchTowerModel", "findFar", "(I)V"⟩, 42), (⟨"SwitchTowerModel", "takeRows", "(II)I"⟩, 42), (⟨"SwitchTowerModel", "findFarTo", "(I)V"⟩, 42), (⟨"SwitchTowerModel", "toGroup", "(J)Z"⟩, 42)]
theorem lw_r4 : ∀ q ∈ lw_privs_4, lw_okq q := List.forall_mem_cons.mpr ⟨lw_p48, List.forall_mem_cons.mpr ⟨lw_p49, List.forall_mem_cons.mpr ⟨lw_p50, List.forall_mem_cons.mpr ⟨lw_p51, List.forall_mem_cons.mpr ⟨lw_p52, List.forall_mem_cons.mpr ⟨lw_p53, List.forall_mem_cons.mpr ⟨lw_p54, List.forall_mem_cons.mpr ⟨lw_p55, List.forall_mem_cons.mpr ⟨lw_p56, List.forall_mem_cons.mpr ⟨lw_p57, List.forall_mem_cons.mpr ⟨lw_p58, List.forall_mem_cons.mpr ⟨lw_p59, List.forall_mem_cons.mpr ⟨lw_p60, List.forall_mem_cons.mpr ⟨lw_p61, List.forall_mem_cons.mpr ⟨lw_p62, List.forall_mem_cons.mpr ⟨lw_p63, fun _ h => absurd h List.not_mem_nil⟩⟩⟩⟩⟩⟩⟩⟩⟩⟩⟩⟩⟩⟩⟩⟩
theorem lw_p64 : lw_okq (⟨"SwitchTowerModel", "made", "(JI)J"⟩, 42) := ⟨⟨by decide +kernel, by decide +kernel⟩, List.mem_of_getElem? (i := 842) (by decide +kernel), List.mem_of_getElem? (i := 1239) (by decide +kernel), List.mem_of_getElem? (i := 1240) (by decide +kernel)⟩
theorem lw_p65 : lw_okq (⟨"SwitchTowerModel", "takeShort", "(I)I"⟩, 42) := ⟨⟨by decide +kernel, by decide +kernel⟩, List.mem_of_getElem? (i := 842) (by decide +kernel), List.mem_of_getElem? (i := 1248) (by decide +kernel), List.mem_of_getElem? (i := 1249) (by decide +kernel)⟩
theorem lw_p66 : lw_okq (⟨"SwitchTowerModel", "findLaw", "(I)I"⟩, 42) := ⟨⟨by decide +kernel, by decide +kernel⟩, List.mem_of_getElem? (i := 842) (by decide +kernel), List.mem_of_getElem? (i := 1257) (by decide +kernel), List.mem_of_getElem? (i := 1258) (by decide +kernel)⟩
theorem lw_p67 : lw_okq (⟨"SwitchTowerModel", "beginFall", "()Z"⟩, 42) := ⟨⟨by decide +kernel, by decide +kernel⟩, List.mem_of_getElem? (i := 842) (by decide +kernel), List.mem_of_getElem? (i := 1269) (by decide +kernel), List.mem_of_getElem? (i := 1270) (by decide +kernel)⟩
theorem lw_p68 : lw_okq (⟨"SwitchTowerModel", "fallsAll", "(I)Z"⟩, 42) := ⟨⟨by decide +kernel, by decide +kernel⟩, List.mem_of_getElem? (i := 842) (by decide +kernel), List.mem_of_getElem? (i := 1273) (by decide +kernel), List.mem_of_getElem? (i := 1274) (by decide +kernel)⟩
theorem lw_p69 : lw_okq (⟨"SwitchTowerModel", "falls", "(I)Z"⟩, 42) := ⟨⟨by decide +kernel, by decide +kernel⟩, List.mem_of_getElem? (i := 842) (by decide +kernel), List.mem_of_getElem? (i := 1277) (by decide +kernel), List.mem_of_getElem? (i := 1278) (by decide +kernel)⟩
def lw_privs_5 : List (MethodName × Nat) := [(⟨"SwitchTowerModel", "made", "(JI)J"⟩, 42), (⟨"SwitchTowerModel", "takeShort", "(I)I"⟩, 42), (⟨"SwitchTowerModel", "findLaw", "(I)I"⟩, 42), (⟨"SwitchTowerModel", "beginFall", "()Z"⟩, 42), (⟨"SwitchTowerModel", "fallsAll", "(I)Z"⟩, 42), (⟨"SwitchTowerModel", "falls", "(I)Z"⟩, 42)]
theorem lw_r5 : ∀ q ∈ lw_privs_5, lw_okq q := List.forall_mem_cons.mpr ⟨lw_p64, List.forall_mem_cons.mpr ⟨lw_p65, List.forall_mem_cons.mpr ⟨lw_p66, List.forall_mem_cons.mpr ⟨lw_p67, List.forall_mem_cons.mpr ⟨lw_p68, List.forall_mem_cons.mpr ⟨lw_p69, fun _ h => absurd h List.not_mem_nil⟩⟩⟩⟩⟩⟩
def lw_privs : List (MethodName × Nat) := lw_privs_1 ++ (lw_privs_2 ++ (lw_privs_3 ++ (lw_privs_4 ++ (lw_privs_5))))
def lw_tbl : List Cond := k2_sels lw_privs ++ tables_1
theorem lw_privs_ok : ∀ q ∈ lw_privs, lw_okq q := by
  show ∀ q ∈ lw_privs_1 ++ (lw_privs_2 ++ (lw_privs_3 ++ (lw_privs_4 ++ (lw_privs_5)))), lw_okq q
  exact List.forall_mem_append.mpr ⟨lw_r1, List.forall_mem_append.mpr ⟨lw_r2, List.forall_mem_append.mpr ⟨lw_r3, List.forall_mem_append.mpr ⟨lw_r4, lw_r5⟩⟩⟩⟩
end
section
def RX0 : String := "SwitchTower$KeyTable"
def TX0 : u_T := fun k => match k with
  | 0 => ("SwitchTower$KeyTable", "keys", "[J", true)
  | 1 => ("SwitchTower$KeyTable", "tails", "[I", true)
  | 2 => ("SwitchTower$KeyTable", "slots", "[I", true)
  | 3 => ("SwitchTower$KeyTable", "count", "I", false)
  | _ => ("SwitchTower$KeyTable", "stamp", "I", false)
def tyX0 : Nat → FieldType := fun k => match k with
  | 0 => .array .long
  | 1 => .array .int
  | 2 => .array .int
  | 3 => .int
  | _ => .int
theorem nmX0 : ∀ a, a < 5 → ∀ b, b < 5 → a ≠ b → (TX0 a).2.1 ≠ (TX0 b).2.1 := by decide +kernel
theorem tyX0_ok : ∀ k, k < 5 → parseFieldDescriptor (TX0 k).2.2.1 = some (tyX0 k) := by decide +kernel
abbrev cX0_init : ByteArray := prog_2_method_1_code
def yX0_init : MethodName := ⟨RX0, "<init>", "(II)V"⟩
abbrev cX0_clear : ByteArray := prog_2_method_2_code
def yX0_clear : MethodName := ⟨RX0, "clear", "()V"⟩
abbrev cX0_find : ByteArray := prog_2_method_3_code
def yX0_find : MethodName := ⟨RX0, "find", "(JI)I"⟩
abbrev cX0_add : ByteArray := prog_2_method_4_code
def yX0_add : MethodName := ⟨RX0, "add", "(JI)I"⟩
abbrev cX0_slotOf : ByteArray := prog_2_method_5_code
def yX0_slotOf : MethodName := ⟨RX0, "slotOf", "(JI)I"⟩
def RX1 : String := "SwitchTower$LevelGroup"
def TX1 : u_T := fun k => match k with
  | 0 => ("SwitchTower$LevelGroup", "members", "LSwitchTower$KeyTable;", true)
  | 1 => ("SwitchTower$LevelGroup", "generators", "[J", true)
  | 2 => ("SwitchTower$LevelGroup", "generatorCount", "I", false)
  | _ => ("SwitchTower$LevelGroup", "points", "I", false)
def tyX1 : Nat → FieldType := fun k => match k with
  | 0 => .object "SwitchTower$KeyTable"
  | 1 => .array .long
  | 2 => .int
  | _ => .int
theorem nmX1 : ∀ a, a < 4 → ∀ b, b < 4 → a ≠ b → (TX1 a).2.1 ≠ (TX1 b).2.1 := by decide +kernel
theorem tyX1_ok : ∀ k, k < 4 → parseFieldDescriptor (TX1 k).2.2.1 = some (tyX1 k) := by decide +kernel
abbrev cX1_init : ByteArray := prog_3_method_1_code
def yX1_init : MethodName := ⟨RX1, "<init>", "()V"⟩
abbrev cX1_begin : ByteArray := prog_3_method_2_code
def yX1_begin : MethodName := ⟨RX1, "begin", "(I)V"⟩
abbrev cX1_bringIn : ByteArray := prog_3_method_3_code
def yX1_bringIn : MethodName := ⟨RX1, "bringIn", "(J)Z"⟩
abbrev cX1_addBlock : ByteArray := prog_3_method_4_code
def yX1_addBlock : MethodName := ⟨RX1, "addBlock", "(IJ)Z"⟩
abbrev cX1_behind : ByteArray := prog_3_method_5_code
def yX1_behind : MethodName := ⟨RX1, "behind", "(JJ)J"⟩
def RX2 : String := "SwitchTower$Levels"
def TX2 : u_T := fun k => match k with
  | 0 => ("SwitchTower$Levels", "table", "[I", true)
  | 1 => ("SwitchTower$Levels", "width", "[I", true)
  | 2 => ("SwitchTower$Levels", "start", "[I", true)
  | 3 => ("SwitchTower$Levels", "distance", "[I", true)
  | 4 => ("SwitchTower$Levels", "queue", "[I", true)
  | 5 => ("SwitchTower$Levels", "cameFrom", "[I", true)
  | 6 => ("SwitchTower$Levels", "cameBy", "[I", true)
  | _ => ("SwitchTower$Levels", "built", "I", false)
def tyX2 : Nat → FieldType := fun k => match k with
  | 0 => .array .int
  | 1 => .array .int
  | 2 => .array .int
  | 3 => .array .int
  | 4 => .array .int
  | 5 => .array .int
  | 6 => .array .int
  | _ => .int
theorem nmX2 : ∀ a, a < 8 → ∀ b, b < 8 → a ≠ b → (TX2 a).2.1 ≠ (TX2 b).2.1 := by decide +kernel
theorem tyX2_ok : ∀ k, k < 8 → parseFieldDescriptor (TX2 k).2.2.1 = some (tyX2 k) := by decide +kernel
abbrev cX2_init : ByteArray := prog_4_method_1_code
def yX2_init : MethodName := ⟨RX2, "<init>", "()V"⟩
abbrev cX2_forget : ByteArray := prog_4_method_2_code
def yX2_forget : MethodName := ⟨RX2, "forget", "()V"⟩
abbrev cX2_forgetRows : ByteArray := prog_4_method_3_code
def yX2_forgetRows : MethodName := ⟨RX2, "forgetRows", "()V"⟩
abbrev cX2_build : ByteArray := prog_4_method_4_code
def yX2_build : MethodName := ⟨RX2, "build", "(LSwitchTower$Machine;I)V"⟩
abbrev cX2_buildBranch : ByteArray := prog_4_method_5_code
def yX2_buildBranch : MethodName := ⟨RX2, "buildBranch", "(LSwitchTower$Machine;III)V"⟩
abbrev cX2_spread : ByteArray := prog_4_method_6_code
def yX2_spread : MethodName := ⟨RX2, "spread", "(LSwitchTower$Machine;IIZ)I"⟩
abbrev cX2_countBackOrbits : ByteArray := prog_4_method_7_code
def yX2_countBackOrbits : MethodName := ⟨RX2, "countBackOrbits", "(LSwitchTower$Machine;I)I"⟩
abbrev cX2_markOfMove : ByteArray := prog_4_method_8_code
def yX2_markOfMove : MethodName := ⟨RX2, "markOfMove", "(III)I"⟩
abbrev cX2_roundsToRest : ByteArray := prog_4_method_9_code
def yX2_roundsToRest : MethodName := ⟨RX2, "roundsToRest", "(LSwitchTower$Word;I)I"⟩
abbrev cX2_ringLength : ByteArray := prog_4_method_10_code
def yX2_ringLength : MethodName := ⟨RX2, "ringLength", "(LSwitchTower$Word;II)I"⟩
abbrev cX2_commonDivisor : ByteArray := prog_4_method_11_code
def yX2_commonDivisor : MethodName := ⟨RX2, "commonDivisor", "(JJ)J"⟩
abbrev cX2_packed : ByteArray := prog_4_method_12_code
def yX2_packed : MethodName := ⟨RX2, "packed", "(II)J"⟩
def RX3 : String := "SwitchTower$Machine"
def TX3 : u_T := fun k => match k with
  | 0 => ("SwitchTower$Machine", "writes", "[I", true)
  | 1 => ("SwitchTower$Machine", "goes", "[I", true)
  | 2 => ("SwitchTower$Machine", "markWrites", "[I", true)
  | 3 => ("SwitchTower$Machine", "markGoes", "[I", true)
  | 4 => ("SwitchTower$Machine", "marks", "[I", true)
  | 5 => ("SwitchTower$Machine", "markCount", "I", false)
  | 6 => ("SwitchTower$Machine", "letters", "I", false)
  | 7 => ("SwitchTower$Machine", "states", "I", false)
  | 8 => ("SwitchTower$Machine", "backs", "I", false)
  | _ => ("SwitchTower$Machine", "whole", "Z", false)
def tyX3 : Nat → FieldType := fun k => match k with
  | 0 => .array .int
  | 1 => .array .int
  | 2 => .array .int
  | 3 => .array .int
  | 4 => .array .int
  | 5 => .int
  | 6 => .int
  | 7 => .int
  | 8 => .int
  | _ => .boolean
theorem nmX3 : ∀ a, a < 10 → ∀ b, b < 10 → a ≠ b → (TX3 a).2.1 ≠ (TX3 b).2.1 := by decide +kernel
theorem tyX3_ok : ∀ k, k < 10 → parseFieldDescriptor (TX3 k).2.2.1 = some (tyX3 k) := by decide +kernel
abbrev cX3_init : ByteArray := prog_5_method_1_code
def yX3_init : MethodName := ⟨RX3, "<init>", "()V"⟩
abbrev cX3_restart : ByteArray := prog_5_method_2_code
def yX3_restart : MethodName := ⟨RX3, "restart", "(I)V"⟩
abbrev cX3_isState : ByteArray := prog_5_method_3_code
def yX3_isState : MethodName := ⟨RX3, "isState", "(I)Z"⟩
abbrev cX3_isLetter : ByteArray := prog_5_method_4_code
def yX3_isLetter : MethodName := ⟨RX3, "isLetter", "(I)Z"⟩
abbrev cX3_isBack : ByteArray := prog_5_method_5_code
def yX3_isBack : MethodName := ⟨RX3, "isBack", "(I)Z"⟩
abbrev cX3_canRead : ByteArray := prog_5_method_6_code
def yX3_canRead : MethodName := ⟨RX3, "canRead", "(LSwitchTower$Sheet;I)Z"⟩
abbrev cX3_read : ByteArray := prog_5_method_7_code
def yX3_read : MethodName := ⟨RX3, "read", "(LSwitchTower$Sheet;I)V"⟩
abbrev cX3_rewire : ByteArray := prog_5_method_8_code
def yX3_rewire : MethodName := ⟨RX3, "rewire", "(IIII)V"⟩
abbrev cX3_refresh : ByteArray := prog_5_method_9_code
def yX3_refresh : MethodName := ⟨RX3, "refresh", "()V"⟩
abbrev cX3_goals : ByteArray := prog_5_method_10_code
def yX3_goals : MethodName := ⟨RX3, "goals", "(I)I"⟩
abbrev cX3_writesUnlike : ByteArray := prog_5_method_11_code
def yX3_writesUnlike : MethodName := ⟨RX3, "writesUnlike", "(I)Z"⟩
abbrev cX3_listMarks : ByteArray := prog_5_method_12_code
def yX3_listMarks : MethodName := ⟨RX3, "listMarks", "()V"⟩
abbrev cX3_wireMarks : ByteArray := prog_5_method_13_code
def yX3_wireMarks : MethodName := ⟨RX3, "wireMarks", "(II)V"⟩
abbrev cX3_rowLength : ByteArray := prog_5_method_14_code
def yX3_rowLength : MethodName := ⟨RX3, "rowLength", "(I)I"⟩
abbrev cX3_hasLetters : ByteArray := prog_5_method_15_code
def yX3_hasLetters : MethodName := ⟨RX3, "hasLetters", "(II)Z"⟩
abbrev cX3_rowIndex : ByteArray := prog_5_method_16_code
def yX3_rowIndex : MethodName := ⟨RX3, "rowIndex", "(II)I"⟩
abbrev cX3_power : ByteArray := prog_5_method_17_code
def yX3_power : MethodName := ⟨RX3, "power", "(II)I"⟩
def RX4 : String := "SwitchTower$Pool"
def TX4 : u_T := fun k => match k with
  | 0 => ("SwitchTower$Pool", "words", "LSwitchTower$KeyTable;", true)
  | 1 => ("SwitchTower$Pool", "signs", "LSwitchTower$KeyTable;", true)
  | 2 => ("SwitchTower$Pool", "parts", "[I", true)
  | 3 => ("SwitchTower$Pool", "writings", "[I", true)
  | 4 => ("SwitchTower$Pool", "kindOf", "[I", true)
  | 5 => ("SwitchTower$Pool", "nextKindOf", "[I", true)
  | 6 => ("SwitchTower$Pool", "rounds", "[I", true)
  | 7 => ("SwitchTower$Pool", "scratch", "LSwitchTower$Word;", true)
  | 8 => ("SwitchTower$Pool", "letters", "I", false)
  | 9 => ("SwitchTower$Pool", "followed", "I", false)
  | 10 => ("SwitchTower$Pool", "classified", "I", false)
  | 11 => ("SwitchTower$Pool", "kinds", "I", false)
  | _ => ("SwitchTower$Pool", "roundCount", "I", false)
def tyX4 : Nat → FieldType := fun k => match k with
  | 0 => .object "SwitchTower$KeyTable"
  | 1 => .object "SwitchTower$KeyTable"
  | 2 => .array .int
  | 3 => .array .int
  | 4 => .array .int
  | 5 => .array .int
  | 6 => .array .int
  | 7 => .object "SwitchTower$Word"
  | 8 => .int
  | 9 => .int
  | 10 => .int
  | 11 => .int
  | _ => .int
theorem nmX4 : ∀ a, a < 13 → ∀ b, b < 13 → a ≠ b → (TX4 a).2.1 ≠ (TX4 b).2.1 := by decide +kernel
theorem tyX4_ok : ∀ k, k < 13 → parseFieldDescriptor (TX4 k).2.2.1 = some (tyX4 k) := by decide +kernel
abbrev cX4_init : ByteArray := prog_6_method_1_code
def yX4_init : MethodName := ⟨RX4, "<init>", "()V"⟩
abbrev cX4_reset : ByteArray := prog_6_method_2_code
def yX4_reset : MethodName := ⟨RX4, "reset", "()V"⟩
abbrev cX4_indexOf : ByteArray := prog_6_method_3_code
def yX4_indexOf : MethodName := ⟨RX4, "indexOf", "(LSwitchTower$Word;)I"⟩
abbrev cX4_load : ByteArray := prog_6_method_4_code
def yX4_load : MethodName := ⟨RX4, "load", "(ILSwitchTower$Word;)V"⟩
abbrev cX4_enter : ByteArray := prog_6_method_5_code
def yX4_enter : MethodName := ⟨RX4, "enter", "(LSwitchTower$Word;)I"⟩
abbrev cX4_take : ByteArray := prog_6_method_6_code
def yX4_take : MethodName := ⟨RX4, "take", "(LSwitchTower$Machine;LSwitchTower$Word;)I"⟩
abbrev cX4_followParts : ByteArray := prog_6_method_7_code
def yX4_followParts : MethodName := ⟨RX4, "followParts", "(LSwitchTower$Machine;)Z"⟩
abbrev cX4_classify : ByteArray := prog_6_method_8_code
def yX4_classify : MethodName := ⟨RX4, "classify", "()V"⟩
abbrev cX4_refine : ByteArray := prog_6_method_9_code
def yX4_refine : MethodName := ⟨RX4, "refine", "()V"⟩
abbrev cX4_keepRound : ByteArray := prog_6_method_10_code
def yX4_keepRound : MethodName := ⟨RX4, "keepRound", "()V"⟩
abbrev cX4_areAlike : ByteArray := prog_6_method_11_code
def yX4_areAlike : MethodName := ⟨RX4, "areAlike", "(II)Z"⟩
abbrev cX4_arePartedBy : ByteArray := prog_6_method_12_code
def yX4_arePartedBy : MethodName := ⟨RX4, "arePartedBy", "(III)Z"⟩
abbrev cX4_partingRow : ByteArray := prog_6_method_13_code
def yX4_partingRow : MethodName := ⟨RX4, "partingRow", "(II)I"⟩
abbrev cX4_firstPartingLetter : ByteArray := prog_6_method_14_code
def yX4_firstPartingLetter : MethodName := ⟨RX4, "firstPartingLetter", "(III)I"⟩
abbrev cX4_firstUnlikeLetter : ByteArray := prog_6_method_15_code
def yX4_firstUnlikeLetter : MethodName := ⟨RX4, "firstUnlikeLetter", "(I)I"⟩
def RX5 : String := "SwitchTower$Sheet"
def TX5 : u_T := fun k => match k with
  | 0 => ("SwitchTower$Sheet", "numbers", "[I", true)
  | 1 => ("SwitchTower$Sheet", "there", "Z", false)
  | 2 => ("SwitchTower$Sheet", "kind", "I", false)
  | _ => ("SwitchTower$Sheet", "count", "I", false)
def tyX5 : Nat → FieldType := fun k => match k with
  | 0 => .array .int
  | 1 => .boolean
  | 2 => .int
  | _ => .int
theorem nmX5 : ∀ a, a < 4 → ∀ b, b < 4 → a ≠ b → (TX5 a).2.1 ≠ (TX5 b).2.1 := by decide +kernel
theorem tyX5_ok : ∀ k, k < 4 → parseFieldDescriptor (TX5 k).2.2.1 = some (tyX5 k) := by decide +kernel
abbrev cX5_init : ByteArray := prog_7_method_1_code
def yX5_init : MethodName := ⟨RX5, "<init>", "()V"⟩
abbrev cX5_lay : ByteArray := prog_7_method_2_code
def yX5_lay : MethodName := ⟨RX5, "lay", "(II)V"⟩
abbrev cX5_hasNumber : ByteArray := prog_7_method_3_code
def yX5_hasNumber : MethodName := ⟨RX5, "hasNumber", "(I)Z"⟩
abbrev cX5_hasPair : ByteArray := prog_7_method_4_code
def yX5_hasPair : MethodName := ⟨RX5, "hasPair", "(II)Z"⟩
abbrev cX5_write : ByteArray := prog_7_method_5_code
def yX5_write : MethodName := ⟨RX5, "write", "(II)V"⟩
def RX6 : String := "SwitchTower$ShortWords"
def TX6 : u_T := fun k => match k with
  | 0 => ("SwitchTower$ShortWords", "pool", "LSwitchTower$Pool;", true)
  | 1 => ("SwitchTower$ShortWords", "word", "LSwitchTower$Word;", true)
  | 2 => ("SwitchTower$ShortWords", "part", "LSwitchTower$Word;", true)
  | 3 => ("SwitchTower$ShortWords", "fallenWords", "[I", true)
  | 4 => ("SwitchTower$ShortWords", "looked", "[I", true)
  | 5 => ("SwitchTower$ShortWords", "hasKind", "[I", true)
  | 6 => ("SwitchTower$ShortWords", "fallenCount", "I", false)
  | 7 => ("SwitchTower$ShortWords", "lookedCount", "I", false)
  | 8 => ("SwitchTower$ShortWords", "asked", "I", false)
  | _ => ("SwitchTower$ShortWords", "fits", "Z", false)
def tyX6 : Nat → FieldType := fun k => match k with
  | 0 => .object "SwitchTower$Pool"
  | 1 => .object "SwitchTower$Word"
  | 2 => .object "SwitchTower$Word"
  | 3 => .array .int
  | 4 => .array .int
  | 5 => .array .int
  | 6 => .int
  | 7 => .int
  | 8 => .int
  | _ => .boolean
theorem nmX6 : ∀ a, a < 10 → ∀ b, b < 10 → a ≠ b → (TX6 a).2.1 ≠ (TX6 b).2.1 := by decide +kernel
theorem tyX6_ok : ∀ k, k < 10 → parseFieldDescriptor (TX6 k).2.2.1 = some (tyX6 k) := by decide +kernel
abbrev cX6_init : ByteArray := prog_8_method_1_code
def yX6_init : MethodName := ⟨RX6, "<init>", "()V"⟩
abbrev cX6_forget : ByteArray := prog_8_method_2_code
def yX6_forget : MethodName := ⟨RX6, "forget", "()V"⟩
abbrev cX6_gatherWithin : ByteArray := prog_8_method_3_code
def yX6_gatherWithin : MethodName := ⟨RX6, "gatherWithin", "(LSwitchTower$Machine;I)I"⟩
abbrev cX6_enterWithin : ByteArray := prog_8_method_4_code
def yX6_enterWithin : MethodName := ⟨RX6, "enterWithin", "(LSwitchTower$Machine;I)Z"⟩
abbrev cX6_beginWithEmpty : ByteArray := prog_8_method_5_code
def yX6_beginWithEmpty : MethodName := ⟨RX6, "beginWithEmpty", "()V"⟩
abbrev cX6_extend : ByteArray := prog_8_method_6_code
def yX6_extend : MethodName := ⟨RX6, "extend", "(LSwitchTower$Machine;I)Z"⟩
abbrev cX6_isLaw : ByteArray := prog_8_method_7_code
def yX6_isLaw : MethodName := ⟨RX6, "isLaw", "(I)Z"⟩
abbrev cX6_countLaws : ByteArray := prog_8_method_8_code
def yX6_countLaws : MethodName := ⟨RX6, "countLaws", "()I"⟩
abbrev cX6_findLaw : ByteArray := prog_8_method_9_code
def yX6_findLaw : MethodName := ⟨RX6, "findLaw", "(I)I"⟩
abbrev cX6_gatherFallen : ByteArray := prog_8_method_10_code
def yX6_gatherFallen : MethodName := ⟨RX6, "gatherFallen", "(LSwitchTower$Machine;I)I"⟩
abbrev cX6_lookAtParts : ByteArray := prog_8_method_11_code
def yX6_lookAtParts : MethodName := ⟨RX6, "lookAtParts", "(LSwitchTower$Machine;II)Z"⟩
abbrev cX6_addUnlike : ByteArray := prog_8_method_12_code
def yX6_addUnlike : MethodName := ⟨RX6, "addUnlike", "()Z"⟩
def RX7 : String := "SwitchTower$Word"
def TX7 : u_T := fun k => match k with
  | 0 => ("SwitchTower$Word", "marks", "J", false)
  | _ => ("SwitchTower$Word", "length", "I", false)
def tyX7 : Nat → FieldType := fun k => match k with
  | 0 => .long
  | _ => .int
theorem nmX7 : ∀ a, a < 2 → ∀ b, b < 2 → a ≠ b → (TX7 a).2.1 ≠ (TX7 b).2.1 := by decide +kernel
theorem tyX7_ok : ∀ k, k < 2 → parseFieldDescriptor (TX7 k).2.2.1 = some (tyX7 k) := by decide +kernel
abbrev cX7_init : ByteArray := prog_9_method_1_code
def yX7_init : MethodName := ⟨RX7, "<init>", "()V"⟩
abbrev cX7_empty : ByteArray := prog_9_method_2_code
def yX7_empty : MethodName := ⟨RX7, "empty", "()V"⟩
abbrev cX7_copy : ByteArray := prog_9_method_3_code
def yX7_copy : MethodName := ⟨RX7, "copy", "(LSwitchTower$Word;)V"⟩
abbrev cX7_mark : ByteArray := prog_9_method_4_code
def yX7_mark : MethodName := ⟨RX7, "mark", "(I)I"⟩
abbrev cX7_push : ByteArray := prog_9_method_5_code
def yX7_push : MethodName := ⟨RX7, "push", "(I)Z"⟩
abbrev cX7_descend : ByteArray := prog_9_method_6_code
def yX7_descend : MethodName := ⟨RX7, "descend", "(LSwitchTower$Machine;I)I"⟩
def RX8 : String := "SwitchTower"
def TX8 : u_T := fun k => match k with
  | 0 => ("SwitchTower", "sheets", "[LSwitchTower$Sheet;", true)
  | 1 => ("SwitchTower", "spots", "[LSwitchTower$Word;", true)
  | 2 => ("SwitchTower", "given", "[I", true)
  | 3 => ("SwitchTower", "scratch", "LSwitchTower$Word;", true)
  | 4 => ("SwitchTower", "machine", "LSwitchTower$Machine;", true)
  | 5 => ("SwitchTower", "levels", "LSwitchTower$Levels;", true)
  | 6 => ("SwitchTower", "levelGroup", "LSwitchTower$LevelGroup;", true)
  | 7 => ("SwitchTower", "pool", "LSwitchTower$Pool;", true)
  | _ => ("SwitchTower", "shortWords", "LSwitchTower$ShortWords;", true)
def tyX8 : Nat → FieldType := fun k => match k with
  | 0 => .array (.object "SwitchTower$Sheet")
  | 1 => .array (.object "SwitchTower$Word")
  | 2 => .array .int
  | 3 => .object "SwitchTower$Word"
  | 4 => .object "SwitchTower$Machine"
  | 5 => .object "SwitchTower$Levels"
  | 6 => .object "SwitchTower$LevelGroup"
  | 7 => .object "SwitchTower$Pool"
  | _ => .object "SwitchTower$ShortWords"
theorem nmX8 : ∀ a, a < 9 → ∀ b, b < 9 → a ≠ b → (TX8 a).2.1 ≠ (TX8 b).2.1 := by decide +kernel
theorem tyX8_ok : ∀ k, k < 9 → parseFieldDescriptor (TX8 k).2.2.1 = some (tyX8 k) := by decide +kernel
abbrev cX8_init : ByteArray := prog_1_method_1_code
def yX8_init : MethodName := ⟨RX8, "<init>", "()V"⟩
abbrev cX8_sheet : ByteArray := prog_1_method_2_code
def yX8_sheet : MethodName := ⟨RX8, "sheet", "(III)I"⟩
abbrev cX8_cell : ByteArray := prog_1_method_3_code
def yX8_cell : MethodName := ⟨RX8, "cell", "(III)I"⟩
abbrev cX8_told : ByteArray := prog_1_method_4_code
def yX8_told : MethodName := ⟨RX8, "told", "(II)I"⟩
abbrev cX8_lose : ByteArray := prog_1_method_5_code
def yX8_lose : MethodName := ⟨RX8, "lose", "(I)I"⟩
abbrev cX8_letters : ByteArray := prog_1_method_6_code
def yX8_letters : MethodName := ⟨RX8, "letters", "(I)I"⟩
abbrev cX8_state : ByteArray := prog_1_method_7_code
def yX8_state : MethodName := ⟨RX8, "state", "(II)I"⟩
abbrev cX8_change : ByteArray := prog_1_method_8_code
def yX8_change : MethodName := ⟨RX8, "change", "(IIII)I"⟩
abbrev cX8_of : ByteArray := prog_1_method_9_code
def yX8_of : MethodName := ⟨RX8, "of", "(III)I"⟩
abbrev cX8_many : ByteArray := prog_1_method_10_code
def yX8_many : MethodName := ⟨RX8, "many", "(I)I"⟩
abbrev cX8_put : ByteArray := prog_1_method_11_code
def yX8_put : MethodName := ⟨RX8, "put", "(IIIII)I"⟩
abbrev cX8_wipe : ByteArray := prog_1_method_12_code
def yX8_wipe : MethodName := ⟨RX8, "wipe", "(I)I"⟩
abbrev cX8_size : ByteArray := prog_1_method_13_code
def yX8_size : MethodName := ⟨RX8, "size", "(I)I"⟩
abbrev cX8_token : ByteArray := prog_1_method_14_code
def yX8_token : MethodName := ⟨RX8, "token", "(II)I"⟩
abbrev cX8_times : ByteArray := prog_1_method_15_code
def yX8_times : MethodName := ⟨RX8, "times", "(III)I"⟩
abbrev cX8_turn : ByteArray := prog_1_method_16_code
def yX8_turn : MethodName := ⟨RX8, "turn", "(II)I"⟩
abbrev cX8_act : ByteArray := prog_1_method_17_code
def yX8_act : MethodName := ⟨RX8, "act", "(II)I"⟩
abbrev cX8_part : ByteArray := prog_1_method_18_code
def yX8_part : MethodName := ⟨RX8, "part", "(III)I"⟩
abbrev cX8_same : ByteArray := prog_1_method_19_code
def yX8_same : MethodName := ⟨RX8, "same", "(II)I"⟩
abbrev cX8_apart : ByteArray := prog_1_method_20_code
def yX8_apart : MethodName := ⟨RX8, "apart", "(II)I"⟩
abbrev cX8_heap : ByteArray := prog_1_method_21_code
def yX8_heap : MethodName := ⟨RX8, "heap", "(I)I"⟩
abbrev cX8_least : ByteArray := prog_1_method_22_code
def yX8_least : MethodName := ⟨RX8, "least", "(I)I"⟩
abbrev cX8_order : ByteArray := prog_1_method_23_code
def yX8_order : MethodName := ⟨RX8, "order", "(II)I"⟩
abbrev cX8_orbits : ByteArray := prog_1_method_24_code
def yX8_orbits : MethodName := ⟨RX8, "orbits", "(I)I"⟩
abbrev cX8_orbit : ByteArray := prog_1_method_25_code
def yX8_orbit : MethodName := ⟨RX8, "orbit", "(I)I"⟩
abbrev cX8_far : ByteArray := prog_1_method_26_code
def yX8_far : MethodName := ⟨RX8, "far", "(II)I"⟩
abbrev cX8_way : ByteArray := prog_1_method_27_code
def yX8_way : MethodName := ⟨RX8, "way", "(III)I"⟩
abbrev cX8_reach : ByteArray := prog_1_method_28_code
def yX8_reach : MethodName := ⟨RX8, "reach", "(I)I"⟩
abbrev cX8_group : ByteArray := prog_1_method_29_code
def yX8_group : MethodName := ⟨RX8, "group", "(I)I"⟩
abbrev cX8_growth : ByteArray := prog_1_method_30_code
def yX8_growth : MethodName := ⟨RX8, "growth", "(I)I"⟩
abbrev cX8_laws : ByteArray := prog_1_method_31_code
def yX8_laws : MethodName := ⟨RX8, "laws", "(I)I"⟩
abbrev cX8_law : ByteArray := prog_1_method_32_code
def yX8_law : MethodName := ⟨RX8, "law", "(III)I"⟩
abbrev cX8_fall : ByteArray := prog_1_method_33_code
def yX8_fall : MethodName := ⟨RX8, "fall", "(I)I"⟩
abbrev cX8_fallen : ByteArray := prog_1_method_34_code
def yX8_fallen : MethodName := ⟨RX8, "fallen", "(III)I"⟩
abbrev cX8_isSheet : ByteArray := prog_1_method_35_code
def yX8_isSheet : MethodName := ⟨RX8, "isSheet", "(I)Z"⟩
abbrev cX8_isSpot : ByteArray := prog_1_method_36_code
def yX8_isSpot : MethodName := ⟨RX8, "isSpot", "(I)Z"⟩
abbrev cX8_isGoal : ByteArray := prog_1_method_37_code
def yX8_isGoal : MethodName := ⟨RX8, "isGoal", "(I)Z"⟩
abbrev cX8_markOf : ByteArray := prog_1_method_38_code
def yX8_markOf : MethodName := ⟨RX8, "markOf", "(I)I"⟩
abbrev cX8_tokenOf : ByteArray := prog_1_method_39_code
def yX8_tokenOf : MethodName := ⟨RX8, "tokenOf", "(I)I"⟩
abbrev cX8_forgetAnswers : ByteArray := prog_1_method_40_code
def yX8_forgetAnswers : MethodName := ⟨RX8, "forgetAnswers", "()V"⟩
abbrev cX8_hasLostWayBack : ByteArray := prog_1_method_41_code
def yX8_hasLostWayBack : MethodName := ⟨RX8, "hasLostWayBack", "(LSwitchTower$Word;)Z"⟩
abbrev cX8_hasBackStates : ByteArray := prog_1_method_42_code
def yX8_hasBackStates : MethodName := ⟨RX8, "hasBackStates", "(LSwitchTower$Word;)Z"⟩
abbrev cX8_refusalOfGiven : ByteArray := prog_1_method_43_code
def yX8_refusalOfGiven : MethodName := ⟨RX8, "refusalOfGiven", "()I"⟩
abbrev cX8_bring : ByteArray := prog_1_method_44_code
def yX8_bring : MethodName := ⟨RX8, "bring", "(LSwitchTower$Word;I)I"⟩
abbrev cX8_join : ByteArray := prog_1_method_45_code
def yX8_join : MethodName := ⟨RX8, "join", "(LSwitchTower$Word;LSwitchTower$Word;I)I"⟩
abbrev cX8_walkDown : ByteArray := prog_1_method_46_code
def yX8_walkDown : MethodName := ⟨RX8, "walkDown", "(LSwitchTower$Word;II)I"⟩
abbrev cX8_gather : ByteArray := prog_1_method_47_code
def yX8_gather : MethodName := ⟨RX8, "gather", "(II)I"⟩
abbrev cX8_levelOf : ByteArray := prog_1_method_48_code
def yX8_levelOf : MethodName := ⟨RX8, "levelOf", "(I)I"⟩
abbrev cX8_walkFrom : ByteArray := prog_1_method_49_code
def yX8_walkFrom : MethodName := ⟨RX8, "walkFrom", "(II)I"⟩
def RX9 : String := "SwitchTowerModel"
def TX9 : u_T := fun k => match k with
  | 0 => ("SwitchTowerModel", "sheetKind", "[I", true)
  | 1 => ("SwitchTowerModel", "sheetSize", "[I", true)
  | 2 => ("SwitchTowerModel", "cellOf", "[I", true)
  | 3 => ("SwitchTowerModel", "letters", "I", false)
  | 4 => ("SwitchTowerModel", "states", "I", false)
  | 5 => ("SwitchTowerModel", "writes", "[I", true)
  | 6 => ("SwitchTowerModel", "goes", "[I", true)
  | 7 => ("SwitchTowerModel", "word", "[I", true)
  | 8 => ("SwitchTowerModel", "sizeOf", "[I", true)
  | 9 => ("SwitchTowerModel", "isCome", "[Z", true)
  | 10 => ("SwitchTowerModel", "tokens", "[I", true)
  | 11 => ("SwitchTowerModel", "tokenMany", "I", false)
  | 12 => ("SwitchTowerModel", "four", "[I", true)
  | 13 => ("SwitchTowerModel", "becomes", "I", false)
  | 14 => ("SwitchTowerModel", "goesOn", "I", false)
  | 15 => ("SwitchTowerModel", "row", "[I", true)
  | 16 => ("SwitchTowerModel", "rowSize", "I", false)
  | 17 => ("SwitchTowerModel", "heapWord", "[I", true)
  | 18 => ("SwitchTowerModel", "heapSize", "[I", true)
  | 19 => ("SwitchTowerModel", "heapOut", "[I", true)
  | 20 => ("SwitchTowerModel", "heapNext", "[I", true)
  | 21 => ("SwitchTowerModel", "heapMany", "I", false)
  | 22 => ("SwitchTowerModel", "heapDone", "I", false)
  | 23 => ("SwitchTowerModel", "classOf", "[I", true)
  | 24 => ("SwitchTowerModel", "newClass", "[I", true)
  | 25 => ("SwitchTowerModel", "classAt", "[I", true)
  | 26 => ("SwitchTowerModel", "first", "I", false)
  | 27 => ("SwitchTowerModel", "second", "I", false)
  | 28 => ("SwitchTowerModel", "levelSize", "I", false)
  | 29 => ("SwitchTowerModel", "madeOf", "[I", true)
  | 30 => ("SwitchTowerModel", "wordMakes", "[I", true)
  | 31 => ("SwitchTowerModel", "heapOf", "[I", true)
  | 32 => ("SwitchTowerModel", "farOf", "[I", true)
  | 33 => ("SwitchTowerModel", "placeFrom", "I", false)
  | 34 => ("SwitchTowerModel", "placeTo", "I", false)
  | 35 => ("SwitchTowerModel", "farTo", "[I", true)
  | 36 => ("SwitchTowerModel", "does", "[J", true)
  | 37 => ("SwitchTowerModel", "slotOf", "[I", true)
  | 38 => ("SwitchTowerModel", "doings", "I", false)
  | 39 => ("SwitchTowerModel", "isBackNow", "[Z", true)
  | 40 => ("SwitchTowerModel", "fallen", "[I", true)
  | _ => ("SwitchTowerModel", "fallenMany", "I", false)
def tyX9 : Nat → FieldType := fun k => match k with
  | 0 => .array .int
  | 1 => .array .int
  | 2 => .array .int
  | 3 => .int
  | 4 => .int
  | 5 => .array .int
  | 6 => .array .int
  | 7 => .array .int
  | 8 => .array .int
  | 9 => .array .boolean
  | 10 => .array .int
  | 11 => .int
  | 12 => .array .int
  | 13 => .int
  | 14 => .int
  | 15 => .array .int
  | 16 => .int
  | 17 => .array .int
  | 18 => .array .int
  | 19 => .array .int
  | 20 => .array .int
  | 21 => .int
  | 22 => .int
  | 23 => .array .int
  | 24 => .array .int
  | 25 => .array .int
  | 26 => .int
  | 27 => .int
  | 28 => .int
  | 29 => .array .int
  | 30 => .array .int
  | 31 => .array .int
  | 32 => .array .int
  | 33 => .int
  | 34 => .int
  | 35 => .array .int
  | 36 => .array .long
  | 37 => .array .int
  | 38 => .int
  | 39 => .array .boolean
  | 40 => .array .int
  | _ => .int
theorem nmX9 : ∀ a, a < 42 → ∀ b, b < 42 → a ≠ b → (TX9 a).2.1 ≠ (TX9 b).2.1 := by decide +kernel
theorem tyX9_ok : ∀ k, k < 42 → parseFieldDescriptor (TX9 k).2.2.1 = some (tyX9 k) := by decide +kernel
abbrev cX9_init : ByteArray := prog_11_method_1_code
def yX9_init : MethodName := ⟨RX9, "<init>", "()V"⟩
abbrev cX9_in : ByteArray := prog_11_method_2_code
def yX9_in : MethodName := ⟨RX9, "in", "(JJJ)Z"⟩
abbrev cX9_isSheet : ByteArray := prog_11_method_3_code
def yX9_isSheet : MethodName := ⟨RX9, "isSheet", "(I)Z"⟩
abbrev cX9_isSpot : ByteArray := prog_11_method_4_code
def yX9_isSpot : MethodName := ⟨RX9, "isSpot", "(I)Z"⟩
abbrev cX9_sheet : ByteArray := prog_11_method_5_code
def yX9_sheet : MethodName := ⟨RX9, "sheet", "(III)I"⟩
abbrev cX9_cell : ByteArray := prog_11_method_6_code
def yX9_cell : MethodName := ⟨RX9, "cell", "(III)I"⟩
abbrev cX9_told : ByteArray := prog_11_method_7_code
def yX9_told : MethodName := ⟨RX9, "told", "(II)I"⟩
abbrev cX9_lose : ByteArray := prog_11_method_8_code
def yX9_lose : MethodName := ⟨RX9, "lose", "(I)I"⟩
abbrev cX9_letters : ByteArray := prog_11_method_9_code
def yX9_letters : MethodName := ⟨RX9, "letters", "(I)I"⟩
abbrev cX9_state : ByteArray := prog_11_method_10_code
def yX9_state : MethodName := ⟨RX9, "state", "(II)I"⟩
abbrev cX9_isFair : ByteArray := prog_11_method_11_code
def yX9_isFair : MethodName := ⟨RX9, "isFair", "(I)Z"⟩
abbrev cX9_isBack : ByteArray := prog_11_method_12_code
def yX9_isBack : MethodName := ⟨RX9, "isBack", "(I)Z"⟩
abbrev cX9_change : ByteArray := prog_11_method_13_code
def yX9_change : MethodName := ⟨RX9, "change", "(IIII)I"⟩
abbrev cX9_of : ByteArray := prog_11_method_14_code
def yX9_of : MethodName := ⟨RX9, "of", "(III)I"⟩
abbrev cX9_isWhole : ByteArray := prog_11_method_15_code
def yX9_isWhole : MethodName := ⟨RX9, "isWhole", "()Z"⟩
abbrev cX9_findTokens : ByteArray := prog_11_method_16_code
def yX9_findTokens : MethodName := ⟨RX9, "findTokens", "()V"⟩
abbrev cX9_many : ByteArray := prog_11_method_17_code
def yX9_many : MethodName := ⟨RX9, "many", "(I)I"⟩
abbrev cX9_add : ByteArray := prog_11_method_18_code
def yX9_add : MethodName := ⟨RX9, "add", "(II)V"⟩
abbrev cX9_copy : ByteArray := prog_11_method_19_code
def yX9_copy : MethodName := ⟨RX9, "copy", "(II)V"⟩
abbrev cX9_put : ByteArray := prog_11_method_20_code
def yX9_put : MethodName := ⟨RX9, "put", "(IIIII)I"⟩
abbrev cX9_wipe : ByteArray := prog_11_method_21_code
def yX9_wipe : MethodName := ⟨RX9, "wipe", "(I)I"⟩
abbrev cX9_size : ByteArray := prog_11_method_22_code
def yX9_size : MethodName := ⟨RX9, "size", "(I)I"⟩
abbrev cX9_token : ByteArray := prog_11_method_23_code
def yX9_token : MethodName := ⟨RX9, "token", "(II)I"⟩
abbrev cX9_times : ByteArray := prog_11_method_24_code
def yX9_times : MethodName := ⟨RX9, "times", "(III)I"⟩
abbrev cX9_turn : ByteArray := prog_11_method_25_code
def yX9_turn : MethodName := ⟨RX9, "turn", "(II)I"⟩
abbrev cX9_step : ByteArray := prog_11_method_26_code
def yX9_step : MethodName := ⟨RX9, "step", "(II)V"⟩
abbrev cX9_partAt : ByteArray := prog_11_method_27_code
def yX9_partAt : MethodName := ⟨RX9, "partAt", "(III)I"⟩
abbrev cX9_takeRow : ByteArray := prog_11_method_28_code
def yX9_takeRow : MethodName := ⟨RX9, "takeRow", "(II)Z"⟩
abbrev cX9_rowNumber : ByteArray := prog_11_method_29_code
def yX9_rowNumber : MethodName := ⟨RX9, "rowNumber", "()I"⟩
abbrev cX9_rewrite : ByteArray := prog_11_method_30_code
def yX9_rewrite : MethodName := ⟨RX9, "rewrite", "(I)V"⟩
abbrev cX9_act : ByteArray := prog_11_method_31_code
def yX9_act : MethodName := ⟨RX9, "act", "(II)I"⟩
abbrev cX9_partAtRow : ByteArray := prog_11_method_32_code
def yX9_partAtRow : MethodName := ⟨RX9, "partAtRow", "(II)V"⟩
abbrev cX9_part : ByteArray := prog_11_method_33_code
def yX9_part : MethodName := ⟨RX9, "part", "(III)I"⟩
abbrev cX9_findInHeap : ByteArray := prog_11_method_34_code
def yX9_findInHeap : MethodName := ⟨RX9, "findInHeap", "(I)I"⟩
abbrev cX9_toHeap : ByteArray := prog_11_method_35_code
def yX9_toHeap : MethodName := ⟨RX9, "toHeap", "(I)I"⟩
abbrev cX9_fromHeap : ByteArray := prog_11_method_36_code
def yX9_fromHeap : MethodName := ⟨RX9, "fromHeap", "(II)V"⟩
abbrev cX9_grow : ByteArray := prog_11_method_37_code
def yX9_grow : MethodName := ⟨RX9, "grow", "()Z"⟩
abbrev cX9_beginHeap : ByteArray := prog_11_method_38_code
def yX9_beginHeap : MethodName := ⟨RX9, "beginHeap", "()V"⟩
abbrev cX9_isSameNow : ByteArray := prog_11_method_39_code
def yX9_isSameNow : MethodName := ⟨RX9, "isSameNow", "(II)Z"⟩
abbrev cX9_partOnce : ByteArray := prog_11_method_40_code
def yX9_partOnce : MethodName := ⟨RX9, "partOnce", "()I"⟩
abbrev cX9_partAll : ByteArray := prog_11_method_41_code
def yX9_partAll : MethodName := ⟨RX9, "partAll", "()I"⟩
abbrev cX9_takeTwo : ByteArray := prog_11_method_42_code
def yX9_takeTwo : MethodName := ⟨RX9, "takeTwo", "(II)I"⟩
abbrev cX9_same : ByteArray := prog_11_method_43_code
def yX9_same : MethodName := ⟨RX9, "same", "(II)I"⟩
abbrev cX9_apart : ByteArray := prog_11_method_44_code
def yX9_apart : MethodName := ⟨RX9, "apart", "(II)I"⟩
abbrev cX9_isParted : ByteArray := prog_11_method_45_code
def yX9_isParted : MethodName := ⟨RX9, "isParted", "(IIII)Z"⟩
abbrev cX9_heap : ByteArray := prog_11_method_46_code
def yX9_heap : MethodName := ⟨RX9, "heap", "(I)I"⟩
abbrev cX9_least : ByteArray := prog_11_method_47_code
def yX9_least : MethodName := ⟨RX9, "least", "(I)I"⟩
abbrev cX9_rowsOf : ByteArray := prog_11_method_48_code
def yX9_rowsOf : MethodName := ⟨RX9, "rowsOf", "(II)I"⟩
abbrev cX9_rowAt : ByteArray := prog_11_method_49_code
def yX9_rowAt : MethodName := ⟨RX9, "rowAt", "(II)V"⟩
abbrev cX9_placeNow : ByteArray := prog_11_method_50_code
def yX9_placeNow : MethodName := ⟨RX9, "placeNow", "()I"⟩
abbrev cX9_findLevel : ByteArray := prog_11_method_51_code
def yX9_findLevel : MethodName := ⟨RX9, "findLevel", "(I)V"⟩
abbrev cX9_isTokenBack : ByteArray := prog_11_method_52_code
def yX9_isTokenBack : MethodName := ⟨RX9, "isTokenBack", "(I)Z"⟩
abbrev cX9_common : ByteArray := prog_11_method_53_code
def yX9_common : MethodName := ⟨RX9, "common", "(JJ)J"⟩
abbrev cX9_order : ByteArray := prog_11_method_54_code
def yX9_order : MethodName := ⟨RX9, "order", "(II)I"⟩
abbrev cX9_orbits : ByteArray := prog_11_method_55_code
def yX9_orbits : MethodName := ⟨RX9, "orbits", "(I)I"⟩
abbrev cX9_takeLevel : ByteArray := prog_11_method_56_code
def yX9_takeLevel : MethodName := ⟨RX9, "takeLevel", "(I)I"⟩
abbrev cX9_findFar : ByteArray := prog_11_method_57_code
def yX9_findFar : MethodName := ⟨RX9, "findFar", "(I)V"⟩
abbrev cX9_orbit : ByteArray := prog_11_method_58_code
def yX9_orbit : MethodName := ⟨RX9, "orbit", "(I)I"⟩
abbrev cX9_takeRows : ByteArray := prog_11_method_59_code
def yX9_takeRows : MethodName := ⟨RX9, "takeRows", "(II)I"⟩
abbrev cX9_far : ByteArray := prog_11_method_60_code
def yX9_far : MethodName := ⟨RX9, "far", "(II)I"⟩
abbrev cX9_findFarTo : ByteArray := prog_11_method_61_code
def yX9_findFarTo : MethodName := ⟨RX9, "findFarTo", "(I)V"⟩
abbrev cX9_way : ByteArray := prog_11_method_62_code
def yX9_way : MethodName := ⟨RX9, "way", "(III)I"⟩
abbrev cX9_reach : ByteArray := prog_11_method_63_code
def yX9_reach : MethodName := ⟨RX9, "reach", "(I)I"⟩
abbrev cX9_toGroup : ByteArray := prog_11_method_64_code
def yX9_toGroup : MethodName := ⟨RX9, "toGroup", "(J)Z"⟩
abbrev cX9_made : ByteArray := prog_11_method_65_code
def yX9_made : MethodName := ⟨RX9, "made", "(JI)J"⟩
abbrev cX9_group : ByteArray := prog_11_method_66_code
def yX9_group : MethodName := ⟨RX9, "group", "(I)I"⟩
abbrev cX9_takeShort : ByteArray := prog_11_method_67_code
def yX9_takeShort : MethodName := ⟨RX9, "takeShort", "(I)I"⟩
abbrev cX9_growth : ByteArray := prog_11_method_68_code
def yX9_growth : MethodName := ⟨RX9, "growth", "(I)I"⟩
abbrev cX9_findLaw : ByteArray := prog_11_method_69_code
def yX9_findLaw : MethodName := ⟨RX9, "findLaw", "(I)I"⟩
abbrev cX9_laws : ByteArray := prog_11_method_70_code
def yX9_laws : MethodName := ⟨RX9, "laws", "(I)I"⟩
abbrev cX9_law : ByteArray := prog_11_method_71_code
def yX9_law : MethodName := ⟨RX9, "law", "(III)I"⟩
abbrev cX9_falls : ByteArray := prog_11_method_72_code
def yX9_falls : MethodName := ⟨RX9, "falls", "(I)Z"⟩
abbrev cX9_beginFall : ByteArray := prog_11_method_73_code
def yX9_beginFall : MethodName := ⟨RX9, "beginFall", "()Z"⟩
abbrev cX9_fallsAll : ByteArray := prog_11_method_74_code
def yX9_fallsAll : MethodName := ⟨RX9, "fallsAll", "(I)Z"⟩
abbrev cX9_fall : ByteArray := prog_11_method_75_code
def yX9_fall : MethodName := ⟨RX9, "fall", "(I)I"⟩
abbrev cX9_fallen : ByteArray := prog_11_method_76_code
def yX9_fallen : MethodName := ⟨RX9, "fallen", "(III)I"⟩
def RJ9 : String := "java/lang/Math"
abbrev cJ9_max_7cf53 : ByteArray := prog_12_method_65_code
def yJ9_max_7cf53 : MethodName := ⟨RJ9, "max", "(II)I"⟩
abbrev cJ9_max_f86c9 : ByteArray := prog_12_method_66_code
def yJ9_max_f86c9 : MethodName := ⟨RJ9, "max", "(JJ)J"⟩
abbrev cJ9_min_7cf53 : ByteArray := prog_12_method_69_code
def yJ9_min_7cf53 : MethodName := ⟨RJ9, "min", "(II)I"⟩
def RJ10 : String := "java/lang/System"
def RJ7 : String := "java/util/Arrays"
abbrev cJ7_fill_53178 : ByteArray := prog_14_method_103_code
def yJ7_fill_53178 : MethodName := ⟨RJ7, "fill", "([II)V"⟩
abbrev xcl : List vw_C := [(RX0, TX0, 5), (RX1, TX1, 4), (RX2, TX2, 8), (RX3, TX3, 10), (RX4, TX4, 13), (RX5, TX5, 4), (RX6, TX6, 10), (RX7, TX7, 2), (RX8, TX8, 9), (RX9, TX9, 42)]
end
section
/-! the program logic: cells by number, their whole numbers as two tables of functions -/
abbrev xs_F : Type := Nat ⊕ Bool
abbrev xs_L : Type := (Nat × List xs_F) ⊕ (Nat × Nat × (Nat → Nat))
abbrev xI : Type := Nat → Nat → Int32
abbrev xJ : Type := Nat → Nat → Int64
abbrev xG : Type := (Nat → Nat) × va_G × (Nat → ClassId)
abbrev xM : Type := MethodName × ByteArray × Nat × Option FieldType × Room × Nat × Nat
abbrev xQT : Type := List Frame → Array Value → State → (Nat → Prop) → State → Prop
def xN : Nat := 105
def xtab : List xs_L := [.inl (8, [.inl 1, .inl 2, .inl 3, .inl 20, .inl 21, .inl 27, .inl 35, .inl 41, .inl 56]), .inr (3, 4, fun r => 4 + 2 * r), .inr (4, 8, fun i => 12 + i), .inr (0, 4, fun _ => 0), .inl (5, [.inl 5, .inr false, .inr false, .inr false]), .inr (0, 40, fun _ => 0), .inl (5, [.inl 7, .inr false, .inr false, .inr false]), .inr (0, 40, fun _ => 0), .inl (5, [.inl 9, .inr false, .inr false, .inr false]), .inr (0, 40, fun _ => 0), .inl (5, [.inl 11, .inr false, .inr false, .inr false]), .inr (0, 40, fun _ => 0), .inl (7, [.inr true, .inr false]), .inl (7, [.inr true, .inr false]), .inl (7, [.inr true, .inr false]), .inl (7, [.inr true, .inr false]), .inl (7, [.inr true, .inr false]), .inl (7, [.inr true, .inr false]), .inl (7, [.inr true, .inr false]), .inl (7, [.inr true, .inr false]), .inl (7, [.inr true, .inr false]), .inl (3, [.inl 22, .inl 23, .inl 24, .inl 25, .inl 26, .inr false, .inr false, .inr false, .inr false, .inr false]), .inr (0, 32, fun _ => 0), .inr (0, 32, fun _ => 0), .inr (0, 64, fun _ => 0), .inr (0, 64, fun _ => 0), .inr (0, 16, fun _ => 0), .inl (2, [.inl 28, .inl 29, .inl 30, .inl 31, .inl 32, .inl 33, .inl 34, .inr false]), .inr (0, 8192, fun _ => 0), .inr (0, 9, fun _ => 0), .inr (0, 9, fun _ => 0), .inr (0, 256, fun _ => 0), .inr (0, 256, fun _ => 0), .inr (0, 256, fun _ => 0), .inr (0, 256, fun _ => 0), .inl (1, [.inl 36, .inl 40, .inr false, .inr false]), .inl (0, [.inl 37, .inl 38, .inl 39, .inr false, .inr false]), .inr (1, 3000, fun _ => 0), .inr (0, 3000, fun _ => 0), .inr (0, 4096, fun _ => 0), .inr (1, 8, fun _ => 0), .inl (4, [.inl 42, .inl 46, .inl 50, .inl 51, .inl 52, .inl 53, .inl 54, .inl 55, .inr false, .inr false, .inr false, .inr false, .inr false]), .inl (0, [.inl 43, .inl 44, .inl 45, .inr false, .inr false]), .inr (1, 200, fun _ => 0), .inr (0, 200, fun _ => 0), .inr (0, 512, fun _ => 0), .inl (0, [.inl 47, .inl 48, .inl 49, .inr false, .inr false]), .inr (1, 200, fun _ => 0), .inr (0, 200, fun _ => 0), .inr (0, 512, fun _ => 0), .inr (0, 800, fun _ => 0), .inr (0, 200, fun _ => 0), .inr (0, 200, fun _ => 0), .inr (0, 200, fun _ => 0), .inr (0, 2800, fun _ => 0), .inl (7, [.inr true, .inr false]), .inl (6, [.inl 57, .inl 72, .inl 73, .inl 74, .inl 75, .inl 76, .inr false, .inr false, .inr false, .inr false]), .inl (4, [.inl 58, .inl 62, .inl 66, .inl 67, .inl 68, .inl 69, .inl 70, .inl 71, .inr false, .inr false, .inr false, .inr false, .inr false]), .inl (0, [.inl 59, .inl 60, .inl 61, .inr false, .inr false]), .inr (1, 200, fun _ => 0), .inr (0, 200, fun _ => 0), .inr (0, 512, fun _ => 0), .inl (0, [.inl 63, .inl 64, .inl 65, .inr false, .inr false]), .inr (1, 200, fun _ => 0), .inr (0, 200, fun _ => 0), .inr (0, 512, fun _ => 0), .inr (0, 800, fun _ => 0), .inr (0, 200, fun _ => 0), .inr (0, 200, fun _ => 0), .inr (0, 200, fun _ => 0), .inr (0, 2800, fun _ => 0), .inl (7, [.inr true, .inr false]), .inl (7, [.inr true, .inr false]), .inl (7, [.inr true, .inr false]), .inr (0, 20, fun _ => 0), .inr (0, 256, fun _ => 0), .inr (0, 200, fun _ => 0), .inl (9, [.inl 78, .inl 79, .inl 80, .inr false, .inr false, .inl 81, .inl 82, .inl 83, .inl 84, .inl 85, .inl 86, .inr false, .inl 87, .inr false, .inr false, .inl 88, .inr false, .inl 89, .inl 90, .inl 91, .inl 92, .inr false, .inr false, .inl 93, .inl 94, .inl 95, .inr false, .inr false, .inr false, .inl 96, .inl 97, .inl 98, .inl 99, .inr false, .inr false, .inl 100, .inl 101, .inl 102, .inr false, .inl 103, .inl 104, .inr false]), .inr (0, 4, fun _ => 0), .inr (0, 4, fun _ => 0), .inr (0, 160, fun _ => 0), .inr (0, 32, fun _ => 0), .inr (0, 32, fun _ => 0), .inr (0, 408, fun _ => 0), .inr (0, 12, fun _ => 0), .inr (2, 8, fun _ => 0), .inr (0, 16, fun _ => 0), .inr (0, 4, fun _ => 0), .inr (0, 16, fun _ => 0), .inr (0, 3216, fun _ => 0), .inr (0, 201, fun _ => 0), .inr (0, 804, fun _ => 0), .inr (0, 804, fun _ => 0), .inr (0, 201, fun _ => 0), .inr (0, 201, fun _ => 0), .inr (0, 3015, fun _ => 0), .inr (0, 4096, fun _ => 0), .inr (0, 256, fun _ => 0), .inr (0, 256, fun _ => 0), .inr (0, 256, fun _ => 0), .inr (0, 256, fun _ => 0), .inr (1, 3001, fun _ => 0), .inr (0, 8192, fun _ => 0), .inr (2, 16, fun _ => 0), .inr (0, 20, fun _ => 0)]
def lay (k : Nat) : xs_L := xtab.getD k (.inl (0, []))

theorem lay_0 : lay 0 = .inl (8, [.inl 1, .inl 2, .inl 3, .inl 20, .inl 21, .inl 27, .inl 35, .inl 41, .inl 56]) := rfl
theorem lay_1 : lay 1 = .inr (3, 4, fun r => 4 + 2 * r) := rfl
theorem lay_2 : lay 2 = .inr (4, 8, fun i => 12 + i) := rfl
theorem lay_3 : lay 3 = .inr (0, 4, fun _ => 0) := rfl
theorem lay_4 : lay 4 = .inl (5, [.inl 5, .inr false, .inr false, .inr false]) := rfl
theorem lay_5 : lay 5 = .inr (0, 40, fun _ => 0) := rfl
theorem lay_6 : lay 6 = .inl (5, [.inl 7, .inr false, .inr false, .inr false]) := rfl
theorem lay_7 : lay 7 = .inr (0, 40, fun _ => 0) := rfl
theorem lay_8 : lay 8 = .inl (5, [.inl 9, .inr false, .inr false, .inr false]) := rfl
theorem lay_9 : lay 9 = .inr (0, 40, fun _ => 0) := rfl
theorem lay_10 : lay 10 = .inl (5, [.inl 11, .inr false, .inr false, .inr false]) := rfl
theorem lay_11 : lay 11 = .inr (0, 40, fun _ => 0) := rfl
theorem lay_12 : lay 12 = .inl (7, [.inr true, .inr false]) := rfl
theorem lay_13 : lay 13 = .inl (7, [.inr true, .inr false]) := rfl
theorem lay_14 : lay 14 = .inl (7, [.inr true, .inr false]) := rfl
theorem lay_15 : lay 15 = .inl (7, [.inr true, .inr false]) := rfl
theorem lay_16 : lay 16 = .inl (7, [.inr true, .inr false]) := rfl
theorem lay_17 : lay 17 = .inl (7, [.inr true, .inr false]) := rfl
theorem lay_18 : lay 18 = .inl (7, [.inr true, .inr false]) := rfl
theorem lay_19 : lay 19 = .inl (7, [.inr true, .inr false]) := rfl
theorem lay_20 : lay 20 = .inl (7, [.inr true, .inr false]) := rfl
theorem lay_21 : lay 21 = .inl (3, [.inl 22, .inl 23, .inl 24, .inl 25, .inl 26, .inr false, .inr false, .inr false, .inr false, .inr false]) := rfl
theorem lay_22 : lay 22 = .inr (0, 32, fun _ => 0) := rfl
theorem lay_23 : lay 23 = .inr (0, 32, fun _ => 0) := rfl
theorem lay_24 : lay 24 = .inr (0, 64, fun _ => 0) := rfl
theorem lay_25 : lay 25 = .inr (0, 64, fun _ => 0) := rfl
theorem lay_26 : lay 26 = .inr (0, 16, fun _ => 0) := rfl
theorem lay_27 : lay 27 = .inl (2, [.inl 28, .inl 29, .inl 30, .inl 31, .inl 32, .inl 33, .inl 34, .inr false]) := rfl
theorem lay_28 : lay 28 = .inr (0, 8192, fun _ => 0) := rfl
theorem lay_29 : lay 29 = .inr (0, 9, fun _ => 0) := rfl
theorem lay_30 : lay 30 = .inr (0, 9, fun _ => 0) := rfl
theorem lay_31 : lay 31 = .inr (0, 256, fun _ => 0) := rfl
theorem lay_32 : lay 32 = .inr (0, 256, fun _ => 0) := rfl
theorem lay_33 : lay 33 = .inr (0, 256, fun _ => 0) := rfl
theorem lay_34 : lay 34 = .inr (0, 256, fun _ => 0) := rfl
theorem lay_35 : lay 35 = .inl (1, [.inl 36, .inl 40, .inr false, .inr false]) := rfl
theorem lay_36 : lay 36 = .inl (0, [.inl 37, .inl 38, .inl 39, .inr false, .inr false]) := rfl
theorem lay_37 : lay 37 = .inr (1, 3000, fun _ => 0) := rfl
theorem lay_38 : lay 38 = .inr (0, 3000, fun _ => 0) := rfl
theorem lay_39 : lay 39 = .inr (0, 4096, fun _ => 0) := rfl
theorem lay_40 : lay 40 = .inr (1, 8, fun _ => 0) := rfl
theorem lay_41 : lay 41 = .inl (4, [.inl 42, .inl 46, .inl 50, .inl 51, .inl 52, .inl 53, .inl 54, .inl 55, .inr false, .inr false, .inr false, .inr false, .inr false]) := rfl
theorem lay_42 : lay 42 = .inl (0, [.inl 43, .inl 44, .inl 45, .inr false, .inr false]) := rfl
theorem lay_43 : lay 43 = .inr (1, 200, fun _ => 0) := rfl
theorem lay_44 : lay 44 = .inr (0, 200, fun _ => 0) := rfl
theorem lay_45 : lay 45 = .inr (0, 512, fun _ => 0) := rfl
theorem lay_46 : lay 46 = .inl (0, [.inl 47, .inl 48, .inl 49, .inr false, .inr false]) := rfl
theorem lay_47 : lay 47 = .inr (1, 200, fun _ => 0) := rfl
theorem lay_48 : lay 48 = .inr (0, 200, fun _ => 0) := rfl
theorem lay_49 : lay 49 = .inr (0, 512, fun _ => 0) := rfl
theorem lay_50 : lay 50 = .inr (0, 800, fun _ => 0) := rfl
theorem lay_51 : lay 51 = .inr (0, 200, fun _ => 0) := rfl
theorem lay_52 : lay 52 = .inr (0, 200, fun _ => 0) := rfl
theorem lay_53 : lay 53 = .inr (0, 200, fun _ => 0) := rfl
theorem lay_54 : lay 54 = .inr (0, 2800, fun _ => 0) := rfl
theorem lay_55 : lay 55 = .inl (7, [.inr true, .inr false]) := rfl
theorem lay_56 : lay 56 = .inl (6, [.inl 57, .inl 72, .inl 73, .inl 74, .inl 75, .inl 76, .inr false, .inr false, .inr false, .inr false]) := rfl
theorem lay_57 : lay 57 = .inl (4, [.inl 58, .inl 62, .inl 66, .inl 67, .inl 68, .inl 69, .inl 70, .inl 71, .inr false, .inr false, .inr false, .inr false, .inr false]) := rfl
theorem lay_58 : lay 58 = .inl (0, [.inl 59, .inl 60, .inl 61, .inr false, .inr false]) := rfl
theorem lay_59 : lay 59 = .inr (1, 200, fun _ => 0) := rfl
theorem lay_60 : lay 60 = .inr (0, 200, fun _ => 0) := rfl
theorem lay_61 : lay 61 = .inr (0, 512, fun _ => 0) := rfl
theorem lay_62 : lay 62 = .inl (0, [.inl 63, .inl 64, .inl 65, .inr false, .inr false]) := rfl
theorem lay_63 : lay 63 = .inr (1, 200, fun _ => 0) := rfl
theorem lay_64 : lay 64 = .inr (0, 200, fun _ => 0) := rfl
theorem lay_65 : lay 65 = .inr (0, 512, fun _ => 0) := rfl
theorem lay_66 : lay 66 = .inr (0, 800, fun _ => 0) := rfl
theorem lay_67 : lay 67 = .inr (0, 200, fun _ => 0) := rfl
theorem lay_68 : lay 68 = .inr (0, 200, fun _ => 0) := rfl
theorem lay_69 : lay 69 = .inr (0, 200, fun _ => 0) := rfl
theorem lay_70 : lay 70 = .inr (0, 2800, fun _ => 0) := rfl
theorem lay_71 : lay 71 = .inl (7, [.inr true, .inr false]) := rfl
theorem lay_72 : lay 72 = .inl (7, [.inr true, .inr false]) := rfl
theorem lay_73 : lay 73 = .inl (7, [.inr true, .inr false]) := rfl
theorem lay_74 : lay 74 = .inr (0, 20, fun _ => 0) := rfl
theorem lay_75 : lay 75 = .inr (0, 256, fun _ => 0) := rfl
theorem lay_76 : lay 76 = .inr (0, 200, fun _ => 0) := rfl
theorem lay_77 : lay 77 = .inl (9, [.inl 78, .inl 79, .inl 80, .inr false, .inr false, .inl 81, .inl 82, .inl 83, .inl 84, .inl 85, .inl 86, .inr false, .inl 87, .inr false, .inr false, .inl 88, .inr false, .inl 89, .inl 90, .inl 91, .inl 92, .inr false, .inr false, .inl 93, .inl 94, .inl 95, .inr false, .inr false, .inr false, .inl 96, .inl 97, .inl 98, .inl 99, .inr false, .inr false, .inl 100, .inl 101, .inl 102, .inr false, .inl 103, .inl 104, .inr false]) := rfl
theorem lay_78 : lay 78 = .inr (0, 4, fun _ => 0) := rfl
theorem lay_79 : lay 79 = .inr (0, 4, fun _ => 0) := rfl
theorem lay_80 : lay 80 = .inr (0, 160, fun _ => 0) := rfl
theorem lay_81 : lay 81 = .inr (0, 32, fun _ => 0) := rfl
theorem lay_82 : lay 82 = .inr (0, 32, fun _ => 0) := rfl
theorem lay_83 : lay 83 = .inr (0, 408, fun _ => 0) := rfl
theorem lay_84 : lay 84 = .inr (0, 12, fun _ => 0) := rfl
theorem lay_85 : lay 85 = .inr (2, 8, fun _ => 0) := rfl
theorem lay_86 : lay 86 = .inr (0, 16, fun _ => 0) := rfl
theorem lay_87 : lay 87 = .inr (0, 4, fun _ => 0) := rfl
theorem lay_88 : lay 88 = .inr (0, 16, fun _ => 0) := rfl
theorem lay_89 : lay 89 = .inr (0, 3216, fun _ => 0) := rfl
theorem lay_90 : lay 90 = .inr (0, 201, fun _ => 0) := rfl
theorem lay_91 : lay 91 = .inr (0, 804, fun _ => 0) := rfl
theorem lay_92 : lay 92 = .inr (0, 804, fun _ => 0) := rfl
theorem lay_93 : lay 93 = .inr (0, 201, fun _ => 0) := rfl
theorem lay_94 : lay 94 = .inr (0, 201, fun _ => 0) := rfl
theorem lay_95 : lay 95 = .inr (0, 3015, fun _ => 0) := rfl
theorem lay_96 : lay 96 = .inr (0, 4096, fun _ => 0) := rfl
theorem lay_97 : lay 97 = .inr (0, 256, fun _ => 0) := rfl
theorem lay_98 : lay 98 = .inr (0, 256, fun _ => 0) := rfl
theorem lay_99 : lay 99 = .inr (0, 256, fun _ => 0) := rfl
theorem lay_100 : lay 100 = .inr (0, 256, fun _ => 0) := rfl
theorem lay_101 : lay 101 = .inr (1, 3001, fun _ => 0) := rfl
theorem lay_102 : lay 102 = .inr (0, 8192, fun _ => 0) := rfl
theorem lay_103 : lay 103 = .inr (2, 16, fun _ => 0) := rfl
theorem lay_104 : lay 104 = .inr (0, 20, fun _ => 0) := rfl
end
section
theorem xtab_len : xtab.length = xN := by decide +kernel
theorem lay_out {k : Nat} (h : ¬ k < xN) : lay k = .inl (0, []) := by
  unfold lay
  rw [List.getD_eq_getElem?_getD, List.getElem?_eq_none (by rw [xtab_len]; omega)]
  rfl
theorem lay_lt_a {k : Nat} {a : Nat × Nat × (Nat → Nat)} (h : lay k = .inr a) : k < xN := by
  by_cases hk : k < xN
  · exact hk
  · rw [lay_out hk] at h; cases h
theorem lay_lt_o {k ci j : Nat} {fs : List xs_F} {sp : xs_F} (h : lay k = .inl (ci, fs)) (hj : fs[j]? = some sp) : k < xN := by
  by_cases hk : k < xN
  · exact hk
  · rw [lay_out hk] at h
    cases h
    simp at hj
-- what a cell holds
def xs_fs (ad : Nat → Nat) (i : Nat → Int32) (j : Nat → Int64) : Nat → List xs_F → List Value
  | _, [] => []
  | n, .inl r :: l => .ref (ad r) :: xs_fs ad i j (n + 1) l
  | n, .inr false :: l => .int (i n) :: xs_fs ad i j (n + 1) l
  | n, .inr true :: l => .long (j n) :: xs_fs ad i j (n + 1) l
def xs_v (ad : Nat → Nat) (i : Nat → Int32) (j : Nat → Int64) (n : Nat) : xs_F → Value
  | .inl r => .ref (ad r)
  | .inr false => .int (i n)
  | .inr true => .long (j n)
theorem xs_fs_at (ad : Nat → Nat) (i : Nat → Int32) (j : Nat → Int64) : ∀ (fs : List xs_F) (n k : Nat), (xs_fs ad i j n fs)[k]? = (fs[k]?).map (xs_v ad i j (n + k))
  | [], n, k => by simp [xs_fs]
  | .inl r :: l, n, 0 => rfl
  | .inr false :: l, n, 0 => rfl
  | .inr true :: l, n, 0 => rfl
  | .inl r :: l, n, k + 1 => by
    have h := xs_fs_at ad i j l (n + 1) k
    rw [show n + 1 + k = n + (k + 1) by omega] at h
    simpa [xs_fs] using h
  | .inr false :: l, n, k + 1 => by
    have h := xs_fs_at ad i j l (n + 1) k
    rw [show n + 1 + k = n + (k + 1) by omega] at h
    simpa [xs_fs] using h
  | .inr true :: l, n, k + 1 => by
    have h := xs_fs_at ad i j l (n + 1) k
    rw [show n + 1 + k = n + (k + 1) by omega] at h
    simpa [xs_fs] using h
theorem xs_fs_len (ad : Nat → Nat) (i : Nat → Int32) (j : Nat → Int64) : ∀ (fs : List xs_F) (n : Nat), (xs_fs ad i j n fs).length = fs.length
  | [], n => rfl
  | .inl r :: l, n => by simp [xs_fs, xs_fs_len ad i j l]
  | .inr false :: l, n => by simp [xs_fs, xs_fs_len ad i j l]
  | .inr true :: l, n => by simp [xs_fs, xs_fs_len ad i j l]
theorem xs_fs_setI (ad : Nat → Nat) (i : Nat → Int32) (j : Nat → Int64) {fs : List xs_F} {k : Nat} (h : fs[k]? = some (.inr false)) (x : Int32) : (xs_fs ad i j 0 fs).set k (.int x) = xs_fs ad (upd i k x) j 0 fs := by
  apply List.ext_getElem?
  intro q
  rw [xs_fs_at]
  by_cases hq : q = k
  · subst hq
    have hl : q < (xs_fs ad i j 0 fs).length := by
      rw [xs_fs_len]; exact (List.getElem?_eq_some_iff.mp h).1
    rw [List.getElem?_set_self hl, h]
    simp [xs_v, upd]
  · rw [List.getElem?_set_ne (fun e => hq e.symm), xs_fs_at]
    cases hf : fs[q]? with
    | none => rfl
    | some sp => rcases sp with r | b
                 · rfl
                 · cases b
                   · simp [xs_v, upd, hq]
                   · rfl
theorem xs_fs_setJ (ad : Nat → Nat) (i : Nat → Int32) (j : Nat → Int64) {fs : List xs_F} {k : Nat} (h : fs[k]? = some (.inr true)) (x : Int64) : (xs_fs ad i j 0 fs).set k (.long x) = xs_fs ad i (vp_updL j k x) 0 fs := by
  apply List.ext_getElem?
  intro q
  rw [xs_fs_at]
  by_cases hq : q = k
  · subst hq
    have hl : q < (xs_fs ad i j 0 fs).length := by
      rw [xs_fs_len]; exact (List.getElem?_eq_some_iff.mp h).1
    rw [List.getElem?_set_self hl, h]
    simp [xs_v, vp_updL]
  · rw [List.getElem?_set_ne (fun e => hq e.symm), xs_fs_at]
    cases hf : fs[q]? with
    | none => rfl
    | some sp => rcases sp with r | b
                 · rfl
                 · cases b
                   · rfl
                   · simp [xs_v, vp_updL, hq]
def xs_a (G : xG) (i : Nat → Int32) (j : Nat → Int64) (a : Nat × Nat × (Nat → Nat)) : va_E := match a.1 with
  | 1 => .inl (G.2.2 1, a.2.1, .inr (.inl j))
  | 3 => .inl (G.2.2 3, a.2.1, .inr (.inr (.inr (.inr (fun k => some (G.1 (a.2.2 k)))))))
  | 4 => .inl (G.2.2 4, a.2.1, .inr (.inr (.inr (.inr (fun k => some (G.1 (a.2.2 k)))))))
  | n => .inl (G.2.2 n, a.2.1, .inl i)
def xs_c (G : xG) (i : Nat → Int32) (j : Nat → Int64) (L : xs_L) : va_E := match L with
  | .inl o => .inr (o.1, xs_fs G.1 i j 0 o.2)
  | .inr a => xs_a G i j a
def xs_e (G : xG) (I : xI) (J : xJ) (k : Nat) : va_E := xs_c G (I k) (J k) (lay k)
def xws (G : xG) (I : xI) (J : xJ) : va_W := (List.range xN).map (fun k => (G.1 k, xs_e G I J k))
abbrev xtys (G : xG) : List (ClassId × FieldType) := [(G.2.2 0, .int), (G.2.2 1, .long), (G.2.2 2, .boolean), (G.2.2 3, .object "SwitchTower$Sheet"), (G.2.2 4, .object "SwitchTower$Word")]
theorem xws_at {G : xG} {I : xI} {J : xJ} {k : Nat} (h : k < xN) : (xws G I J)[k]? = some (G.1 k, xs_e G I J k) := by
  simp [xws, h]
theorem xws_inv {G : xG} {I : xI} {J : xJ} {k : Nat} {q : Nat × va_E} (h : (xws G I J)[k]? = some q) : k < xN ∧ q = (G.1 k, xs_e G I J k) := by
  have hk : k < xN := by
    have := (List.getElem?_eq_some_iff.mp h).1
    simpa [xws] using this
  exact ⟨hk, Option.some.inj (h.symm.trans (xws_at hk))⟩
theorem xws_set {G : xG} {I I' : xI} {J J' : xJ} {k : Nat} {e : va_E} (hk : k < xN) (he : xs_e G I' J' k = e) (ho : ∀ q, q ≠ k → xs_e G I' J' q = xs_e G I J q) : (xws G I J).set k (G.1 k, e) = xws G I' J' := by
  apply List.ext_getElem?
  intro q
  by_cases hq : q = k
  · subst hq
    rw [List.getElem?_set_self (by simpa [xws] using hk), xws_at hk, he]
  · rw [List.getElem?_set_ne (fun e => hq e.symm)]
    by_cases hqn : q < xN
    · rw [xws_at hqn, xws_at hqn, ho q hq]
    · rw [List.getElem?_eq_none (by simp [xws]; omega), List.getElem?_eq_none (by simp [xws]; omega)]
theorem xws_setI {G : xG} {I : xI} {J : xJ} {k : Nat} {i : Nat → Int32} {e : va_E} (hk : k < xN) (he : xs_c G i (J k) (lay k) = e) : (xws G I J).set k (G.1 k, e) = xws G (va_up I k i) J := by
  refine xws_set hk ?_ (fun q hq => ?_)
  · rw [← he]; simp [xs_e, va_up]
  · simp [xs_e, va_up, hq]
theorem xws_setJ {G : xG} {I : xI} {J : xJ} {k : Nat} {j : Nat → Int64} {e : va_E} (hk : k < xN) (he : xs_c G (I k) j (lay k) = e) : (xws G I J).set k (G.1 k, e) = xws G I (va_up J k j) := by
  refine xws_set hk ?_ (fun q hq => ?_)
  · rw [← he]; simp [xs_e, va_up]
  · simp [xs_e, va_up, hq]
def xInj (G : xG) : Prop := ∀ i j : Nat, i < xN → j < xN → G.1 i = G.1 j → i = j
theorem xD {G : xG} {I : xI} {J : xJ} {A : Nat → Prop} (hi : xInj G) (hA : ∀ k, k < xN → A (G.1 k)) : va_D A (xws G I J) := by
  refine ⟨fun i j p q hp hq e => ?_, fun k q hk => ?_⟩
  · obtain ⟨h1, rfl⟩ := xws_inv hp
    obtain ⟨h2, rfl⟩ := xws_inv hq
    exact hi i j h1 h2 e
  · obtain ⟨h1, rfl⟩ := xws_inv hk
    exact hA k h1
-- locals, by place
def xal : Nat → List (Option Value) → List (Nat × Value)
  | _, [] => []
  | n, none :: l => xal (n + 1) l
  | n, some v :: l => (n, v) :: xal (n + 1) l
theorem xal_mem : ∀ (l : List (Option Value)) (n : Nat) (q : Nat × Value), q ∈ xal n l ↔ n ≤ q.1 ∧ l[q.1 - n]? = some (some q.2)
  | [], n, q => by simp [xal]
  | none :: l, n, q => by
    rw [xal, xal_mem l (n + 1) q]
    constructor
    · rintro ⟨h1, h2⟩
      refine ⟨by omega, ?_⟩
      rw [show q.1 - n = (q.1 - (n + 1)) + 1 by omega, List.getElem?_cons_succ]
      exact h2
    · rintro ⟨h1, h2⟩
      by_cases h : q.1 = n
      · rw [h, Nat.sub_self] at h2
        simp at h2
      · rw [show q.1 - n = (q.1 - (n + 1)) + 1 by omega, List.getElem?_cons_succ] at h2
        exact ⟨by omega, h2⟩
  | some v :: l, n, q => by
    rw [xal, List.mem_cons, xal_mem l (n + 1) q]
    constructor
    · rintro (h | ⟨h1, h2⟩)
      · subst h
        simp
      · refine ⟨by omega, ?_⟩
        rw [show q.1 - n = (q.1 - (n + 1)) + 1 by omega, List.getElem?_cons_succ]
        exact h2
    · rintro ⟨h1, h2⟩
      by_cases h : q.1 = n
      · left
        rw [h, Nat.sub_self] at h2
        simp at h2
        rw [h2, ← h]
      · right
        rw [show q.1 - n = (q.1 - (n + 1)) + 1 by omega, List.getElem?_cons_succ] at h2
        exact ⟨by omega, h2⟩
abbrev xL : Type := List (Option Value)
def xkill (l : xL) (i : Nat) : xL := match l[i]? with
  | some (some (.long _)) => l.set i none
  | some (some (.double _)) => l.set i none
  | _ => l
def xpre (l : xL) (i : Nat) : xL := match i with
  | 0 => l
  | i + 1 => xkill l i
def xst1 (l : xL) (i : Nat) (v : Value) : xL := (xpre l i).set i (some v)
def xst2 (l : xL) (i : Nat) (v : Value) : xL := ((xpre l i).set i (some v)).set (i + 1) none
def xhas (ls : Array Slot) (nL : Nat) (l : xL) : Prop := lv_has ls nL (xal 0 l)
theorem xhas_at {ls : Array Slot} {nL : Nat} {l : xL} (h : xhas ls nL l) {i : Nat} {v : Value} (hi : l[i]? = some (some v)) : ls[i]? = some (.val v) := h.2.2 (i, v) ((xal_mem l 0 (i, v)).mpr ⟨Nat.zero_le _, hi⟩)
theorem xhas_of {ls : Array Slot} {nL : Nat} {l : xL} {lv : List (Nat × Value)} (h : lv_has ls nL lv) (hs : ∀ (i : Nat) (v : Value), l[i]? = some (some v) → (i, v) ∈ lv) : xhas ls nL l := by
  refine ⟨h.1, h.2.1, fun q hq => h.2.2 q ?_⟩
  obtain ⟨-, h2⟩ := (xal_mem l 0 q).mp hq
  exact hs q.1 q.2 h2
theorem xkill_at {l : xL} {i k : Nat} {v : Value} (h : (xkill l i)[k]? = some (some v)) : l[k]? = some (some v) ∧ (k = i → ¬ v.category = 2) := by
  unfold xkill at h
  by_cases hk : k = i
  · subst hk
    split at h
    · rename_i w hw
      rw [List.getElem?_set_self (List.getElem?_eq_some_iff.mp hw).1] at h
      cases h
    · rename_i w hw
      rw [List.getElem?_set_self (List.getElem?_eq_some_iff.mp hw).1] at h
      cases h
    · rename_i h1 h2
      refine ⟨h, fun _ hc => ?_⟩
      cases v with
      | long x => exact h1 x h
      | double x => exact h2 x h
      | _ => simp [Value.category] at hc
  · refine ⟨?_, fun e => absurd e hk⟩
    split at h
    · rwa [List.getElem?_set_ne (fun e => hk e.symm)] at h
    · rwa [List.getElem?_set_ne (fun e => hk e.symm)] at h
    · exact h
theorem xpre_at {l : xL} {i k : Nat} {v : Value} (h : (xpre l i)[k]? = some (some v)) : l[k]? = some (some v) ∧ (k + 1 = i → ¬ v.category = 2) := by
  cases i with
  | zero => exact ⟨h, fun e => by omega⟩
  | succ i =>
    obtain ⟨h1, h2⟩ := xkill_at (i := i) h
    exact ⟨h1, fun e => h2 (by omega)⟩
theorem xst1_in {l : xL} {i : Nat} {x : Value} (k : Nat) (v : Value) (h : (xst1 l i x)[k]? = some (some v)) : (k, v) ∈ (i, x) :: (xal 0 l).filter (fun q => !(q.1 == i) && !(q.1 + 1 == i && q.2.category == 2)) := by
  unfold xst1 at h
  by_cases hk : k = i
  · subst hk
    by_cases hl : k < (xpre l k).length
    · rw [List.getElem?_set_self hl] at h
      cases h
      exact List.mem_cons_self
    · rw [List.getElem?_eq_none (by simpa using hl)] at h
      cases h
  · rw [List.getElem?_set_ne (fun e => hk e.symm)] at h
    obtain ⟨h1, h2⟩ := xpre_at h
    refine List.mem_cons_of_mem _ (List.mem_filter.mpr ⟨(xal_mem l 0 (k, v)).mpr ⟨Nat.zero_le _, h1⟩, ?_⟩)
    simp only [Bool.and_eq_true, Bool.not_eq_true', beq_eq_false_iff_ne, ne_eq, Bool.and_eq_false_imp, beq_iff_eq]
    exact ⟨hk, fun e => h2 e⟩
theorem xst2_in {l : xL} {i : Nat} {x : Value} (k : Nat) (v : Value) (h : (xst2 l i x)[k]? = some (some v)) : (k, v) ∈ (i, x) :: (xal 0 l).filter (fun q => !(q.1 == i) && (!(q.1 == i + 1) && !(q.1 + 1 == i && q.2.category == 2))) := by
  unfold xst2 at h
  by_cases hk1 : k = i + 1
  · subst hk1
    by_cases hl : i + 1 < ((xpre l i).set i (some x)).length
    · rw [List.getElem?_set_self hl] at h
      cases h
    · rw [List.getElem?_eq_none (by simpa using hl)] at h
      cases h
  rw [List.getElem?_set_ne (fun e => hk1 e.symm)] at h
  by_cases hk : k = i
  · subst hk
    by_cases hl : k < (xpre l k).length
    · rw [List.getElem?_set_self hl] at h
      cases h
      exact List.mem_cons_self
    · rw [List.getElem?_eq_none (by simpa using hl)] at h
      cases h
  · rw [List.getElem?_set_ne (fun e => hk e.symm)] at h
    obtain ⟨h1, h2⟩ := xpre_at h
    refine List.mem_cons_of_mem _ (List.mem_filter.mpr ⟨(xal_mem l 0 (k, v)).mpr ⟨Nat.zero_le _, h1⟩, ?_⟩)
    simp only [Bool.and_eq_true, Bool.not_eq_true', beq_eq_false_iff_ne, ne_eq, Bool.and_eq_false_imp, beq_iff_eq]
    exact ⟨hk, hk1, fun e => h2 e⟩
-- the words
def xw : List Cond := lw_tbl.filter goodWord
theorem xw_sub {w : Cond} (h : w ∈ xw) : w ∈ lw_tbl := (List.mem_filter.mp h).1
theorem xw_good {w : Cond} (h : w ∈ xw) : goodWord w = true := (List.mem_filter.mp h).2
theorem xw_in {w : Cond} (h : w ∈ lw_tbl) (hg : goodWord w = true) : w ∈ xw := List.mem_filter.mpr ⟨h, hg⟩
theorem xt {w : Cond} (n : Nat) (h : tables_1[n]? = some w) (hg : goodWord w = true) : w ∈ xw := xw_in (List.mem_append_right _ (List.mem_of_getElem? h)) hg
theorem xp {w : Cond} (h : w ∈ k2_sels lw_privs) (hg : goodWord w = true) : w ∈ xw := xw_in (List.mem_append_left _ h) hg
def xnest : Cond := .methodLinkNest RX3 60 yX8_isGoal RX8
-- a method's own words
abbrev xown (F : xM) : List Cond := .code F.1 F.2.1 F.2.2.1 F.2.2.2.1 :: xw
theorem xown_good {F F' : xM} (h : Cond.code F'.1 F'.2.1 F'.2.2.1 F'.2.2.2.1 ∈ xw) : GoodIn (xown F) (xown F') := by
  intro w hw
  rcases List.mem_cons.mp hw with e | h1
  · subst e
    exact ⟨List.mem_cons_of_mem _ h, good_of_word (xw_good h)⟩
  · exact ⟨List.mem_cons_of_mem _ h1, good_of_word (xw_good h1)⟩
/-- what holds in a method's body -/
def xC (G : xG) (F : xM) (p : Program) (s : State) (m : MethodId) (args : Array Value) (meth : Method) (c : Code) (A : Nat → Prop) : Prop :=
  p.tables.exec = Jvm.exec ∧ c.code = F.2.1 ∧ c.maxLocals = F.2.2.1 ∧ s.vm.findClass F.1.cls = some m.cls ∧ (∀ w ∈ xw, w.before args s = true) ∧ va_K G.2.1 xcl (xtys G) s ∧ xInj G ∧ (∀ k, k < xN → A (G.1 k)) ∧ meth.locks = false ∧ meth.sig.returnType = F.2.2.2.1 ∧ va_Nw xnest s
def xT (G : xG) (F : xM) (Q : xQT) (pc : Nat) (lv : xL) (st : List Value) (I : xI) (J : xJ) : Prop :=
  ∀ (p : Program) (l : Launch) (e : Env) (s : State) (m : MethodId) (args : Array Value) (below : List Frame) (meth : Method) (c : Code) (A : Nat → Prop), xC G F p s m args meth c A →
  ∀ (H : Heap) (locs : List Loc) (ls : Array Slot), xhas ls F.2.2.1 lv → va_P G.2.1 xcl (xws G I J) H → va_S A s.heap H locs → W p l e F.2.2.2.2.1 s m args below meth c H locs F.2.2.2.2.2.1 F.2.2.2.2.2.2 (Q below args s A) (F0 m pc ls st)
def xA (G : xG) : Nat → Prop := fun q => ∃ k, k < xN ∧ q = G.1 k
def xQc (G : xG) (post : Option Value → xI → xJ → Prop) (A : Nat → Prop) : Array Value → State → Outcome → State → Prop := fun _ st oc t => (∃ (r : Option Value) (I : xI) (J : xJ), oc = .returned r ∧ post r I J ∧ va_P G.2.1 xcl (xws G I J) t.heap) ∧ va_F A st t
def xMQ (G : xG) (post : Option Value → xI → xJ → Prop) : xQT := fun below args s A => MQ below (xQc G post A) args s 0 0 A
def xPc (G : xG) (av : List Value) (I : xI) (J : xJ) : Array Value → State → Prop := va_Pc av (fun U => va_P G.2.1 xcl (xws G I J) U.heap ∧ va_K G.2.1 xcl (xtys G) U ∧ va_Nw xnest U ∧ xInj G)
/-- a method's contract -/
def xCon (G : xG) (F : xM) (av : List Value) (I : xI) (J : xJ) (post : Option Value → xI → xJ → Prop) : Prop :=
  ∀ l : Launch, Met l F.1 (xown F) F.2.2.2.2.1 (xPc G av I J) (xQc G post (xA G)) 0 0 (xA G)
def xEnt : List Value → xL
  | [] => []
  | v :: vs => if v.category = 2 then some v :: none :: xEnt vs else some v :: xEnt vs
theorem xEnt_in : ∀ (vs : List Value) (n i : Nat) (v : Value), (xEnt vs)[i]? = some (some v) → (n + i, v) ∈ lv_args n vs
  | [], n, i, v, h => by simp [xEnt] at h
  | w :: vs, n, i, v, h => by
    unfold xEnt at h
    unfold lv_args
    by_cases hc : w.category = 2
    · rw [if_pos hc] at h ⊢
      match i, h with
      | 0, h => simp at h; subst h; simp
      | 1, h => simp at h
      | i + 2, h =>
        have h1 := xEnt_in vs (n + 2) i v (by simpa using h)
        rw [show n + 2 + i = n + (i + 2) by omega] at h1
        exact List.mem_cons_of_mem _ h1
    · rw [if_neg hc] at h ⊢
      match i, h with
      | 0, h => simp at h; subst h; simp
      | i + 1, h =>
        have h1 := xEnt_in vs (n + 1) i v (by simpa using h)
        rw [show n + 1 + i = n + (i + 1) by omega] at h1
        exact List.mem_cons_of_mem _ h1
/-- a contract by its body -/
theorem x_enter {G : xG} {F : xM} {av : List Value} {I : xI} {J : xJ} {post : Option Value → xI → xJ → Prop} (lv : xL) (hy : plainName F.1.cls = true) (hn : (lg_sl av).length ≤ F.2.2.1) (hc : F.2.2.2.2.2 = (0, 0)) (hlv : ∀ (i : Nat) (v : Value), lv[i]? = some (some v) → (xEnt av)[i]? = some (some v)) (h : xT G F (xMQ G post) 0 lv [] I J) : xCon G F av I J post := by
  intro l
  refine Met.ofW (cc := F.2.1) (maxL := F.2.2.1) (ret := F.2.2.2.1) (ws' := xw) hy rfl ?_
  intro p e s m args below meth c s₁ B hml hv
  obtain ⟨rfl, hP, hK, hN, hi⟩ := hv
  have hts := atoms_spec (ws := xown F) B.pre
  have hl := lv_entry av (n := F.2.2.1) hn
  rw [lg_entry_eq]
  have hl2 : xhas ((lg_sl av ++ List.replicate (F.2.2.1 - (lg_sl av).length) Slot.unset).toArray) F.2.2.1 lv := xhas_of hl (fun i v hiv => by
    have := xEnt_in av 0 i v (hlv i v hiv)
    rwa [Nat.zero_add] at this)
  have hh := h p l e s m av.toArray below meth c (xA G) ⟨B.exec, B.bytes, hml, findClass_of_methodNamed B.named, fun w hw => hts w (List.mem_cons_of_mem _ hw), hK, hi, fun k hk => ⟨k, hk, rfl⟩, B.notSynchronized, B.returns, hN⟩ s.heap [] _ hl2 hP va_S.rf
  rw [show F.2.2.2.2.2.1 = 0 by rw [hc], show F.2.2.2.2.2.2 = 0 by rw [hc]] at hh
  exact hh
end
section
section XR
variable {G : xG} {F : xM} {Q : xQT} {pc : Nat} {lv : xL} {st : List Value} {I : xI} {J : xJ}
theorem xr_iadd {x y : Int32} (hd : decode F.2.1 pc = .ok (.iadd, 1)) (k : xT G F Q (pc + 1) lv (.int (x + y) :: st) I J) : xT G F Q pc lv (.int y :: .int x :: st) I J := fun p l e s m args below meth c A C H locs ls hl hP hS => lv_iadd C.1 C.2.1 hd (k p l e s m args below meth c A C H locs ls hl hP hS)
theorem xr_isub {x y : Int32} (hd : decode F.2.1 pc = .ok (.isub, 1)) (k : xT G F Q (pc + 1) lv (.int (x - y) :: st) I J) : xT G F Q pc lv (.int y :: .int x :: st) I J := fun p l e s m args below meth c A C H locs ls hl hP hS => lv_isub C.1 C.2.1 hd (k p l e s m args below meth c A C H locs ls hl hP hS)
theorem xr_imul {x y : Int32} (hd : decode F.2.1 pc = .ok (.imul, 1)) (k : xT G F Q (pc + 1) lv (.int (x * y) :: st) I J) : xT G F Q pc lv (.int y :: .int x :: st) I J := fun p l e s m args below meth c A C H locs ls hl hP hS => lv_imul C.1 C.2.1 hd (k p l e s m args below meth c A C H locs ls hl hP hS)
theorem xr_iand {x y : Int32} (hd : decode F.2.1 pc = .ok (.iand, 1)) (k : xT G F Q (pc + 1) lv (.int (x &&& y) :: st) I J) : xT G F Q pc lv (.int y :: .int x :: st) I J := fun p l e s m args below meth c A C H locs ls hl hP hS => lv_iand C.1 C.2.1 hd (k p l e s m args below meth c A C H locs ls hl hP hS)
theorem xr_ior {x y : Int32} (hd : decode F.2.1 pc = .ok (.ior, 1)) (k : xT G F Q (pc + 1) lv (.int (x ||| y) :: st) I J) : xT G F Q pc lv (.int y :: .int x :: st) I J := fun p l e s m args below meth c A C H locs ls hl hP hS => lv_ior C.1 C.2.1 hd (k p l e s m args below meth c A C H locs ls hl hP hS)
theorem xr_ixor {x y : Int32} (hd : decode F.2.1 pc = .ok (.ixor, 1)) (k : xT G F Q (pc + 1) lv (.int (x ^^^ y) :: st) I J) : xT G F Q pc lv (.int y :: .int x :: st) I J := fun p l e s m args below meth c A C H locs ls hl hP hS => lv_ixor C.1 C.2.1 hd (k p l e s m args below meth c A C H locs ls hl hP hS)
theorem xr_ishl {x y : Int32} (hd : decode F.2.1 pc = .ok (.ishl, 1)) (k : xT G F Q (pc + 1) lv (.int (x <<< (y &&& 31)) :: st) I J) : xT G F Q pc lv (.int y :: .int x :: st) I J := fun p l e s m args below meth c A C H locs ls hl hP hS => lv_ishl C.1 C.2.1 hd (k p l e s m args below meth c A C H locs ls hl hP hS)
theorem xr_ishr {x y : Int32} (hd : decode F.2.1 pc = .ok (.ishr, 1)) (k : xT G F Q (pc + 1) lv (.int (x >>> (y &&& 31)) :: st) I J) : xT G F Q pc lv (.int y :: .int x :: st) I J := fun p l e s m args below meth c A C H locs ls hl hP hS => lv_ishr C.1 C.2.1 hd (k p l e s m args below meth c A C H locs ls hl hP hS)
theorem xr_idiv {x y : Int32} (hd : decode F.2.1 pc = .ok (.idiv, 1)) (hne : ¬ y = 0) (k : xT G F Q (pc + 1) lv (.int (x / y) :: st) I J) : xT G F Q pc lv (.int y :: .int x :: st) I J := fun p l e s m args below meth c A C H locs ls hl hP hS => lv_idiv C.1 C.2.1 hd hne (k p l e s m args below meth c A C H locs ls hl hP hS)
theorem xr_irem {x y : Int32} (hd : decode F.2.1 pc = .ok (.irem, 1)) (hne : ¬ y = 0) (k : xT G F Q (pc + 1) lv (.int (x - x / y * y) :: st) I J) : xT G F Q pc lv (.int y :: .int x :: st) I J := fun p l e s m args below meth c A C H locs ls hl hP hS => lv_irem C.1 C.2.1 hd hne (k p l e s m args below meth c A C H locs ls hl hP hS)
theorem xr_ladd {x y : Int64} (hd : decode F.2.1 pc = .ok (.ladd, 1)) (k : xT G F Q (pc + 1) lv (.long (x + y) :: st) I J) : xT G F Q pc lv (.long y :: .long x :: st) I J := fun p l e s m args below meth c A C H locs ls hl hP hS => lv_ladd C.1 C.2.1 hd (k p l e s m args below meth c A C H locs ls hl hP hS)
theorem xr_lsub {x y : Int64} (hd : decode F.2.1 pc = .ok (.lsub, 1)) (k : xT G F Q (pc + 1) lv (.long (x - y) :: st) I J) : xT G F Q pc lv (.long y :: .long x :: st) I J := fun p l e s m args below meth c A C H locs ls hl hP hS => lv_lsub C.1 C.2.1 hd (k p l e s m args below meth c A C H locs ls hl hP hS)
theorem xr_lmul {x y : Int64} (hd : decode F.2.1 pc = .ok (.lmul, 1)) (k : xT G F Q (pc + 1) lv (.long (x * y) :: st) I J) : xT G F Q pc lv (.long y :: .long x :: st) I J := fun p l e s m args below meth c A C H locs ls hl hP hS => lv_lmul C.1 C.2.1 hd (k p l e s m args below meth c A C H locs ls hl hP hS)
theorem xr_land {x y : Int64} (hd : decode F.2.1 pc = .ok (.land, 1)) (k : xT G F Q (pc + 1) lv (.long (x &&& y) :: st) I J) : xT G F Q pc lv (.long y :: .long x :: st) I J := fun p l e s m args below meth c A C H locs ls hl hP hS => lv_land C.1 C.2.1 hd (k p l e s m args below meth c A C H locs ls hl hP hS)
theorem xr_lor {x y : Int64} (hd : decode F.2.1 pc = .ok (.lor, 1)) (k : xT G F Q (pc + 1) lv (.long (x ||| y) :: st) I J) : xT G F Q pc lv (.long y :: .long x :: st) I J := fun p l e s m args below meth c A C H locs ls hl hP hS => lv_lor C.1 C.2.1 hd (k p l e s m args below meth c A C H locs ls hl hP hS)
theorem xr_ldiv {x y : Int64} (hd : decode F.2.1 pc = .ok (.ldiv, 1)) (hne : ¬ y = 0) (k : xT G F Q (pc + 1) lv (.long (x / y) :: st) I J) : xT G F Q pc lv (.long y :: .long x :: st) I J := fun p l e s m args below meth c A C H locs ls hl hP hS => lv_ldiv C.1 C.2.1 hd hne (k p l e s m args below meth c A C H locs ls hl hP hS)
theorem xr_lrem {x y : Int64} (hd : decode F.2.1 pc = .ok (.lrem, 1)) (hne : ¬ y = 0) (k : xT G F Q (pc + 1) lv (.long (x - x / y * y) :: st) I J) : xT G F Q pc lv (.long y :: .long x :: st) I J := fun p l e s m args below meth c A C H locs ls hl hP hS => lv_lrem C.1 C.2.1 hd hne (k p l e s m args below meth c A C H locs ls hl hP hS)
theorem xr_ineg {x : Int32} (hd : decode F.2.1 pc = .ok (.ineg, 1)) (k : xT G F Q (pc + 1) lv (.int (-x) :: st) I J) : xT G F Q pc lv (.int x :: st) I J := fun p l e s m args below meth c A C H locs ls hl hP hS => lv_ineg C.1 C.2.1 hd (k p l e s m args below meth c A C H locs ls hl hP hS)
theorem xr_i2l {x : Int32} (hd : decode F.2.1 pc = .ok (.i2l, 1)) (k : xT G F Q (pc + 1) lv (.long x.toInt64 :: st) I J) : xT G F Q pc lv (.int x :: st) I J := fun p l e s m args below meth c A C H locs ls hl hP hS => lv_i2l C.1 C.2.1 hd rfl (k p l e s m args below meth c A C H locs ls hl hP hS)
theorem xr_l2i {x : Int64} (hd : decode F.2.1 pc = .ok (.l2i, 1)) (k : xT G F Q (pc + 1) lv (.int x.toInt32 :: st) I J) : xT G F Q pc lv (.long x :: st) I J := fun p l e s m args below meth c A C H locs ls hl hP hS => lv_l2i C.1 C.2.1 hd rfl (k p l e s m args below meth c A C H locs ls hl hP hS)
theorem xr_i2b {x : Int32} (hd : decode F.2.1 pc = .ok (.i2b, 1)) (k : xT G F Q (pc + 1) lv (.int x.toInt8.toInt32 :: st) I J) : xT G F Q pc lv (.int x :: st) I J := fun p l e s m args below meth c A C H locs ls hl hP hS => lv_i2b C.1 C.2.1 hd rfl (k p l e s m args below meth c A C H locs ls hl hP hS)
theorem xr_i2s {x : Int32} (hd : decode F.2.1 pc = .ok (.i2s, 1)) (k : xT G F Q (pc + 1) lv (.int x.toInt16.toInt32 :: st) I J) : xT G F Q pc lv (.int x :: st) I J := fun p l e s m args below meth c A C H locs ls hl hP hS => lv_i2s C.1 C.2.1 hd rfl (k p l e s m args below meth c A C H locs ls hl hP hS)
theorem xr_iushr {x y : Int32} (hd : decode F.2.1 pc = .ok (.iushr, 1)) (k : xT G F Q (pc + 1) lv (.int (x.toUInt32 >>> (y.toUInt32 &&& Int32.toUInt32 31)).toInt32 :: st) I J) : xT G F Q pc lv (.int y :: .int x :: st) I J := fun p l e s m args below meth c A C H locs ls hl hP hS => lv_iushr C.1 C.2.1 hd rfl (k p l e s m args below meth c A C H locs ls hl hP hS)
theorem xr_lushr {x : Int64} {y : Int32} (hd : decode F.2.1 pc = .ok (.lushr, 1)) (k : xT G F Q (pc + 1) lv (.long (x.toUInt64 >>> (y.toInt64.toUInt64 &&& Int64.toUInt64 63)).toInt64 :: st) I J) : xT G F Q pc lv (.int y :: .long x :: st) I J := fun p l e s m args below meth c A C H locs ls hl hP hS => lv_lushr C.1 C.2.1 hd rfl (k p l e s m args below meth c A C H locs ls hl hP hS)
theorem xr_lshl {x : Int64} {y : Int32} (hd : decode F.2.1 pc = .ok (.lshl, 1)) (k : xT G F Q (pc + 1) lv (.long (x <<< (y.toInt64 &&& 63)) :: st) I J) : xT G F Q pc lv (.int y :: .long x :: st) I J := fun p l e s m args below meth c A C H locs ls hl hP hS => lv_lshl C.1 C.2.1 hd rfl (k p l e s m args below meth c A C H locs ls hl hP hS)
theorem xr_lcmp {x y : Int64} (hd : decode F.2.1 pc = .ok (.lcmp, 1)) (k : xT G F Q (pc + 1) lv (.int (lg_cmp x y) :: st) I J) : xT G F Q pc lv (.long y :: .long x :: st) I J := fun p l e s m args below meth c A C H locs ls hl hP hS => W.lcmp C.1 C.2.1 hd (k p l e s m args below meth c A C H locs ls hl hP hS)
theorem xr_icm1 (hd : decode F.2.1 pc = .ok (.iconst (-1), 1)) (k : xT G F Q (pc + 1) lv (.int (-1) :: st) I J) : xT G F Q pc lv (st) I J := fun p l e s m args below meth c A C H locs ls hl hP hS => lv_iconst (v := -1) C.1 C.2.1 hd (by decide) (k p l e s m args below meth c A C H locs ls hl hP hS)
theorem xr_ic0 (hd : decode F.2.1 pc = .ok (.iconst (0), 1)) (k : xT G F Q (pc + 1) lv (.int (0) :: st) I J) : xT G F Q pc lv (st) I J := fun p l e s m args below meth c A C H locs ls hl hP hS => lv_iconst (v := 0) C.1 C.2.1 hd (by decide) (k p l e s m args below meth c A C H locs ls hl hP hS)
theorem xr_ic1 (hd : decode F.2.1 pc = .ok (.iconst (1), 1)) (k : xT G F Q (pc + 1) lv (.int (1) :: st) I J) : xT G F Q pc lv (st) I J := fun p l e s m args below meth c A C H locs ls hl hP hS => lv_iconst (v := 1) C.1 C.2.1 hd (by decide) (k p l e s m args below meth c A C H locs ls hl hP hS)
theorem xr_ic2 (hd : decode F.2.1 pc = .ok (.iconst (2), 1)) (k : xT G F Q (pc + 1) lv (.int (2) :: st) I J) : xT G F Q pc lv (st) I J := fun p l e s m args below meth c A C H locs ls hl hP hS => lv_iconst (v := 2) C.1 C.2.1 hd (by decide) (k p l e s m args below meth c A C H locs ls hl hP hS)
theorem xr_ic3 (hd : decode F.2.1 pc = .ok (.iconst (3), 1)) (k : xT G F Q (pc + 1) lv (.int (3) :: st) I J) : xT G F Q pc lv (st) I J := fun p l e s m args below meth c A C H locs ls hl hP hS => lv_iconst (v := 3) C.1 C.2.1 hd (by decide) (k p l e s m args below meth c A C H locs ls hl hP hS)
theorem xr_ic4 (hd : decode F.2.1 pc = .ok (.iconst (4), 1)) (k : xT G F Q (pc + 1) lv (.int (4) :: st) I J) : xT G F Q pc lv (st) I J := fun p l e s m args below meth c A C H locs ls hl hP hS => lv_iconst (v := 4) C.1 C.2.1 hd (by decide) (k p l e s m args below meth c A C H locs ls hl hP hS)
theorem xr_ic5 (hd : decode F.2.1 pc = .ok (.iconst (5), 1)) (k : xT G F Q (pc + 1) lv (.int (5) :: st) I J) : xT G F Q pc lv (st) I J := fun p l e s m args below meth c A C H locs ls hl hP hS => lv_iconst (v := 5) C.1 C.2.1 hd (by decide) (k p l e s m args below meth c A C H locs ls hl hP hS)
theorem xr_lc0 (hd : decode F.2.1 pc = .ok (.lconst 0, 1)) (k : xT G F Q (pc + 1) lv (.long 0 :: st) I J) : xT G F Q pc lv (st) I J := fun p l e s m args below meth c A C H locs ls hl hP hS => lv_lconst (v := 0) C.1 C.2.1 hd (by decide) (k p l e s m args below meth c A C H locs ls hl hP hS)
theorem xr_lc1 (hd : decode F.2.1 pc = .ok (.lconst 1, 1)) (k : xT G F Q (pc + 1) lv (.long 1 :: st) I J) : xT G F Q pc lv (st) I J := fun p l e s m args below meth c A C H locs ls hl hP hS => lv_lconst (v := 1) C.1 C.2.1 hd (by decide) (k p l e s m args below meth c A C H locs ls hl hP hS)
theorem xr_bip {n : Int} {v : Int32} (hv : (Int8.ofInt n).toInt32 = v) (hd : decode F.2.1 pc = .ok (.bipush n, 2)) (k : xT G F Q (pc + 2) lv (.int v :: st) I J) : xT G F Q pc lv (st) I J := fun p l e s m args below meth c A C H locs ls hl hP hS => lv_bipush C.1 C.2.1 hd hv (k p l e s m args below meth c A C H locs ls hl hP hS)
theorem xr_sip {n : Int} {v : Int32} (hv : (Int16.ofInt n).toInt32 = v) (hd : decode F.2.1 pc = .ok (.sipush n, 3)) (k : xT G F Q (pc + 3) lv (.int v :: st) I J) : xT G F Q pc lv (st) I J := fun p l e s m args below meth c A C H locs ls hl hP hS => lv_sipush C.1 C.2.1 hd hv (k p l e s m args below meth c A C H locs ls hl hP hS)
theorem xr_ldc {ix : Nat} {v : Int32} (hw : Cond.constant F.1.cls ix v ∈ xw) (hd : decode F.2.1 pc = .ok (.ldc ix, 2)) (k : xT G F Q (pc + 2) lv (.int v :: st) I J) : xT G F Q pc lv (st) I J := fun p l e s m args below meth c A C H locs ls hl hP hS => lv_ldc C.1 C.2.1 C.2.2.2.1 (C.2.2.2.2.1 _ hw) hd (k p l e s m args below meth c A C H locs ls hl hP hS)
theorem xr_ldc2 {ix : Nat} {v : Int64} (hw : Cond.constantLong F.1.cls ix v ∈ xw) (hd : decode F.2.1 pc = .ok (.ldc2_w ix, 3)) (k : xT G F Q (pc + 3) lv (.long v :: st) I J) : xT G F Q pc lv (st) I J := fun p l e s m args below meth c A C H locs ls hl hP hS => lv_ldc2 C.1 C.2.1 C.2.2.2.1 (C.2.2.2.2.1 _ hw) hd (k p l e s m args below meth c A C H locs ls hl hP hS)
theorem xr_iload {i : Nat} {x : Int32} (hd : decode F.2.1 pc = .ok (.iload i, 2)) (hv : lv[i]? = some (some (.int x))) (k : xT G F Q (pc + 2) lv (.int x :: st) I J) : xT G F Q pc lv (st) I J := fun p l e s m args below meth c A C H locs ls hl hP hS => lv_iload C.1 C.2.1 hd (xhas_at hl hv) (k p l e s m args below meth c A C H locs ls hl hP hS)
theorem xr_iload0 {x : Int32} (hd : decode F.2.1 pc = .ok (.iload_n 0, 1)) (hv : lv[0]? = some (some (.int x))) (k : xT G F Q (pc + 1) lv (.int x :: st) I J) : xT G F Q pc lv (st) I J := fun p l e s m args below meth c A C H locs ls hl hP hS => lv_iload_n C.1 C.2.1 hd rfl (xhas_at hl hv) (k p l e s m args below meth c A C H locs ls hl hP hS)
theorem xr_iload1 {x : Int32} (hd : decode F.2.1 pc = .ok (.iload_n 1, 1)) (hv : lv[1]? = some (some (.int x))) (k : xT G F Q (pc + 1) lv (.int x :: st) I J) : xT G F Q pc lv (st) I J := fun p l e s m args below meth c A C H locs ls hl hP hS => lv_iload_n C.1 C.2.1 hd rfl (xhas_at hl hv) (k p l e s m args below meth c A C H locs ls hl hP hS)
theorem xr_iload2 {x : Int32} (hd : decode F.2.1 pc = .ok (.iload_n 2, 1)) (hv : lv[2]? = some (some (.int x))) (k : xT G F Q (pc + 1) lv (.int x :: st) I J) : xT G F Q pc lv (st) I J := fun p l e s m args below meth c A C H locs ls hl hP hS => lv_iload_n C.1 C.2.1 hd rfl (xhas_at hl hv) (k p l e s m args below meth c A C H locs ls hl hP hS)
theorem xr_iload3 {x : Int32} (hd : decode F.2.1 pc = .ok (.iload_n 3, 1)) (hv : lv[3]? = some (some (.int x))) (k : xT G F Q (pc + 1) lv (.int x :: st) I J) : xT G F Q pc lv (st) I J := fun p l e s m args below meth c A C H locs ls hl hP hS => lv_iload_n C.1 C.2.1 hd rfl (xhas_at hl hv) (k p l e s m args below meth c A C H locs ls hl hP hS)
theorem xr_istore {i : Nat} {x : Int32} (hd : decode F.2.1 pc = .ok (.istore i, 2)) (hn : i < F.2.2.1) (k : xT G F Q (pc + 2) (xst1 lv i (.int x)) (st) I J) : xT G F Q pc lv (.int x :: st) I J := fun p l e s m args below meth c A C H locs ls hl hP hS => lv_istore C.1 C.2.1 hd hl hn rfl (fun ls2 h2 => k p l e s m args below meth c A C H locs ls2 (xhas_of h2 (fun q v h => xst1_in q v h)) hP hS)
theorem xr_istore0 {x : Int32} (hd : decode F.2.1 pc = .ok (.istore_n 0, 1)) (hn : 0 < F.2.2.1) (k : xT G F Q (pc + 1) (xst1 lv 0 (.int x)) (st) I J) : xT G F Q pc lv (.int x :: st) I J := fun p l e s m args below meth c A C H locs ls hl hP hS => lv_istore_n (i := 0) C.1 C.2.1 hd rfl hl hn rfl (fun ls2 h2 => k p l e s m args below meth c A C H locs ls2 (xhas_of h2 (fun q v h => xst1_in q v h)) hP hS)
theorem xr_istore1 {x : Int32} (hd : decode F.2.1 pc = .ok (.istore_n 1, 1)) (hn : 1 < F.2.2.1) (k : xT G F Q (pc + 1) (xst1 lv 1 (.int x)) (st) I J) : xT G F Q pc lv (.int x :: st) I J := fun p l e s m args below meth c A C H locs ls hl hP hS => lv_istore_n (i := 1) C.1 C.2.1 hd rfl hl hn rfl (fun ls2 h2 => k p l e s m args below meth c A C H locs ls2 (xhas_of h2 (fun q v h => xst1_in q v h)) hP hS)
theorem xr_istore2 {x : Int32} (hd : decode F.2.1 pc = .ok (.istore_n 2, 1)) (hn : 2 < F.2.2.1) (k : xT G F Q (pc + 1) (xst1 lv 2 (.int x)) (st) I J) : xT G F Q pc lv (.int x :: st) I J := fun p l e s m args below meth c A C H locs ls hl hP hS => lv_istore_n (i := 2) C.1 C.2.1 hd rfl hl hn rfl (fun ls2 h2 => k p l e s m args below meth c A C H locs ls2 (xhas_of h2 (fun q v h => xst1_in q v h)) hP hS)
theorem xr_istore3 {x : Int32} (hd : decode F.2.1 pc = .ok (.istore_n 3, 1)) (hn : 3 < F.2.2.1) (k : xT G F Q (pc + 1) (xst1 lv 3 (.int x)) (st) I J) : xT G F Q pc lv (.int x :: st) I J := fun p l e s m args below meth c A C H locs ls hl hP hS => lv_istore_n (i := 3) C.1 C.2.1 hd rfl hl hn rfl (fun ls2 h2 => k p l e s m args below meth c A C H locs ls2 (xhas_of h2 (fun q v h => xst1_in q v h)) hP hS)
theorem xr_lload {i : Nat} {x : Int64} (hd : decode F.2.1 pc = .ok (.lload i, 2)) (hv : lv[i]? = some (some (.long x))) (k : xT G F Q (pc + 2) lv (.long x :: st) I J) : xT G F Q pc lv (st) I J := fun p l e s m args below meth c A C H locs ls hl hP hS => lv_lload C.1 C.2.1 hd (xhas_at hl hv) (k p l e s m args below meth c A C H locs ls hl hP hS)
theorem xr_lload0 {x : Int64} (hd : decode F.2.1 pc = .ok (.lload_n 0, 1)) (hv : lv[0]? = some (some (.long x))) (k : xT G F Q (pc + 1) lv (.long x :: st) I J) : xT G F Q pc lv (st) I J := fun p l e s m args below meth c A C H locs ls hl hP hS => lv_lload_n C.1 C.2.1 hd rfl (xhas_at hl hv) (k p l e s m args below meth c A C H locs ls hl hP hS)
theorem xr_lload1 {x : Int64} (hd : decode F.2.1 pc = .ok (.lload_n 1, 1)) (hv : lv[1]? = some (some (.long x))) (k : xT G F Q (pc + 1) lv (.long x :: st) I J) : xT G F Q pc lv (st) I J := fun p l e s m args below meth c A C H locs ls hl hP hS => lv_lload_n C.1 C.2.1 hd rfl (xhas_at hl hv) (k p l e s m args below meth c A C H locs ls hl hP hS)
theorem xr_lload2 {x : Int64} (hd : decode F.2.1 pc = .ok (.lload_n 2, 1)) (hv : lv[2]? = some (some (.long x))) (k : xT G F Q (pc + 1) lv (.long x :: st) I J) : xT G F Q pc lv (st) I J := fun p l e s m args below meth c A C H locs ls hl hP hS => lv_lload_n C.1 C.2.1 hd rfl (xhas_at hl hv) (k p l e s m args below meth c A C H locs ls hl hP hS)
theorem xr_lload3 {x : Int64} (hd : decode F.2.1 pc = .ok (.lload_n 3, 1)) (hv : lv[3]? = some (some (.long x))) (k : xT G F Q (pc + 1) lv (.long x :: st) I J) : xT G F Q pc lv (st) I J := fun p l e s m args below meth c A C H locs ls hl hP hS => lv_lload_n C.1 C.2.1 hd rfl (xhas_at hl hv) (k p l e s m args below meth c A C H locs ls hl hP hS)
theorem xr_lstore {i : Nat} {x : Int64} (hd : decode F.2.1 pc = .ok (.lstore i, 2)) (hn : i + 1 < F.2.2.1) (k : xT G F Q (pc + 2) (xst2 lv i (.long x)) (st) I J) : xT G F Q pc lv (.long x :: st) I J := fun p l e s m args below meth c A C H locs ls hl hP hS => lv_lstore C.1 C.2.1 hd hl hn rfl (fun ls2 h2 => k p l e s m args below meth c A C H locs ls2 (xhas_of h2 (fun q v h => xst2_in q v h)) hP hS)
theorem xr_lstore0 {x : Int64} (hd : decode F.2.1 pc = .ok (.lstore_n 0, 1)) (hn : 1 < F.2.2.1) (k : xT G F Q (pc + 1) (xst2 lv 0 (.long x)) (st) I J) : xT G F Q pc lv (.long x :: st) I J := fun p l e s m args below meth c A C H locs ls hl hP hS => lv_lstore_n (i := 0) C.1 C.2.1 hd rfl hl hn rfl (fun ls2 h2 => k p l e s m args below meth c A C H locs ls2 (xhas_of h2 (fun q v h => xst2_in q v h)) hP hS)
theorem xr_lstore1 {x : Int64} (hd : decode F.2.1 pc = .ok (.lstore_n 1, 1)) (hn : 2 < F.2.2.1) (k : xT G F Q (pc + 1) (xst2 lv 1 (.long x)) (st) I J) : xT G F Q pc lv (.long x :: st) I J := fun p l e s m args below meth c A C H locs ls hl hP hS => lv_lstore_n (i := 1) C.1 C.2.1 hd rfl hl hn rfl (fun ls2 h2 => k p l e s m args below meth c A C H locs ls2 (xhas_of h2 (fun q v h => xst2_in q v h)) hP hS)
theorem xr_lstore2 {x : Int64} (hd : decode F.2.1 pc = .ok (.lstore_n 2, 1)) (hn : 3 < F.2.2.1) (k : xT G F Q (pc + 1) (xst2 lv 2 (.long x)) (st) I J) : xT G F Q pc lv (.long x :: st) I J := fun p l e s m args below meth c A C H locs ls hl hP hS => lv_lstore_n (i := 2) C.1 C.2.1 hd rfl hl hn rfl (fun ls2 h2 => k p l e s m args below meth c A C H locs ls2 (xhas_of h2 (fun q v h => xst2_in q v h)) hP hS)
theorem xr_lstore3 {x : Int64} (hd : decode F.2.1 pc = .ok (.lstore_n 3, 1)) (hn : 4 < F.2.2.1) (k : xT G F Q (pc + 1) (xst2 lv 3 (.long x)) (st) I J) : xT G F Q pc lv (.long x :: st) I J := fun p l e s m args below meth c A C H locs ls hl hP hS => lv_lstore_n (i := 3) C.1 C.2.1 hd rfl hl hn rfl (fun ls2 h2 => k p l e s m args below meth c A C H locs ls2 (xhas_of h2 (fun q v h => xst2_in q v h)) hP hS)
theorem xr_aload {i : Nat} {x : Nat} (hd : decode F.2.1 pc = .ok (.aload i, 2)) (hv : lv[i]? = some (some (.ref x))) (k : xT G F Q (pc + 2) lv (.ref x :: st) I J) : xT G F Q pc lv (st) I J := fun p l e s m args below meth c A C H locs ls hl hP hS => lv_aload C.1 C.2.1 hd (xhas_at hl hv) (k p l e s m args below meth c A C H locs ls hl hP hS)
theorem xr_aload0 {x : Nat} (hd : decode F.2.1 pc = .ok (.aload_n 0, 1)) (hv : lv[0]? = some (some (.ref x))) (k : xT G F Q (pc + 1) lv (.ref x :: st) I J) : xT G F Q pc lv (st) I J := fun p l e s m args below meth c A C H locs ls hl hP hS => lv_aload_n C.1 C.2.1 hd rfl (xhas_at hl hv) (k p l e s m args below meth c A C H locs ls hl hP hS)
theorem xr_aload1 {x : Nat} (hd : decode F.2.1 pc = .ok (.aload_n 1, 1)) (hv : lv[1]? = some (some (.ref x))) (k : xT G F Q (pc + 1) lv (.ref x :: st) I J) : xT G F Q pc lv (st) I J := fun p l e s m args below meth c A C H locs ls hl hP hS => lv_aload_n C.1 C.2.1 hd rfl (xhas_at hl hv) (k p l e s m args below meth c A C H locs ls hl hP hS)
theorem xr_aload2 {x : Nat} (hd : decode F.2.1 pc = .ok (.aload_n 2, 1)) (hv : lv[2]? = some (some (.ref x))) (k : xT G F Q (pc + 1) lv (.ref x :: st) I J) : xT G F Q pc lv (st) I J := fun p l e s m args below meth c A C H locs ls hl hP hS => lv_aload_n C.1 C.2.1 hd rfl (xhas_at hl hv) (k p l e s m args below meth c A C H locs ls hl hP hS)
theorem xr_aload3 {x : Nat} (hd : decode F.2.1 pc = .ok (.aload_n 3, 1)) (hv : lv[3]? = some (some (.ref x))) (k : xT G F Q (pc + 1) lv (.ref x :: st) I J) : xT G F Q pc lv (st) I J := fun p l e s m args below meth c A C H locs ls hl hP hS => lv_aload_n C.1 C.2.1 hd rfl (xhas_at hl hv) (k p l e s m args below meth c A C H locs ls hl hP hS)
theorem xr_astore {i : Nat} {x : Nat} (hd : decode F.2.1 pc = .ok (.astore i, 2)) (hn : i < F.2.2.1) (k : xT G F Q (pc + 2) (xst1 lv i (.ref x)) (st) I J) : xT G F Q pc lv (.ref x :: st) I J := fun p l e s m args below meth c A C H locs ls hl hP hS => lv_astore C.1 C.2.1 hd hl hn rfl (fun ls2 h2 => k p l e s m args below meth c A C H locs ls2 (xhas_of h2 (fun q v h => xst1_in q v h)) hP hS)
theorem xr_astore0 {x : Nat} (hd : decode F.2.1 pc = .ok (.astore_n 0, 1)) (hn : 0 < F.2.2.1) (k : xT G F Q (pc + 1) (xst1 lv 0 (.ref x)) (st) I J) : xT G F Q pc lv (.ref x :: st) I J := fun p l e s m args below meth c A C H locs ls hl hP hS => lv_astore_n (i := 0) C.1 C.2.1 hd rfl hl hn rfl (fun ls2 h2 => k p l e s m args below meth c A C H locs ls2 (xhas_of h2 (fun q v h => xst1_in q v h)) hP hS)
theorem xr_astore1 {x : Nat} (hd : decode F.2.1 pc = .ok (.astore_n 1, 1)) (hn : 1 < F.2.2.1) (k : xT G F Q (pc + 1) (xst1 lv 1 (.ref x)) (st) I J) : xT G F Q pc lv (.ref x :: st) I J := fun p l e s m args below meth c A C H locs ls hl hP hS => lv_astore_n (i := 1) C.1 C.2.1 hd rfl hl hn rfl (fun ls2 h2 => k p l e s m args below meth c A C H locs ls2 (xhas_of h2 (fun q v h => xst1_in q v h)) hP hS)
theorem xr_astore2 {x : Nat} (hd : decode F.2.1 pc = .ok (.astore_n 2, 1)) (hn : 2 < F.2.2.1) (k : xT G F Q (pc + 1) (xst1 lv 2 (.ref x)) (st) I J) : xT G F Q pc lv (.ref x :: st) I J := fun p l e s m args below meth c A C H locs ls hl hP hS => lv_astore_n (i := 2) C.1 C.2.1 hd rfl hl hn rfl (fun ls2 h2 => k p l e s m args below meth c A C H locs ls2 (xhas_of h2 (fun q v h => xst1_in q v h)) hP hS)
theorem xr_astore3 {x : Nat} (hd : decode F.2.1 pc = .ok (.astore_n 3, 1)) (hn : 3 < F.2.2.1) (k : xT G F Q (pc + 1) (xst1 lv 3 (.ref x)) (st) I J) : xT G F Q pc lv (.ref x :: st) I J := fun p l e s m args below meth c A C H locs ls hl hP hS => lv_astore_n (i := 3) C.1 C.2.1 hd rfl hl hn rfl (fun ls2 h2 => k p l e s m args below meth c A C H locs ls2 (xhas_of h2 (fun q v h => xst1_in q v h)) hP hS)
theorem xr_iinc {i : Nat} {n : Int} {x d : Int32} (hd : decode F.2.1 pc = .ok (.iinc i n, 3)) (hv : lv[i]? = some (some (.int x))) (he : Int32.ofInt n = d) (hn : i < F.2.2.1) (k : xT G F Q (pc + 3) (xst1 lv i (.int (x + d))) st I J) : xT G F Q pc lv st I J := by
  intro p l e s m args below meth c A C H locs ls hl hP hS
  obtain ⟨q, hq⟩ := List.getElem?_of_mem ((xal_mem lv 0 (i, .int x)).mpr ⟨Nat.zero_le _, hv⟩)
  exact lv_iinc C.1 C.2.1 hd hl hq (by rw [he]) hn rfl (fun ls2 h2 => k p l e s m args below meth c A C H locs ls2 (xhas_of h2 (fun q v h => xst1_in q v h)) hP hS)
theorem xr_dup {va : Value} (hd : decode F.2.1 pc = .ok (.dup, 1)) (hva : va.category = 1) (k : xT G F Q (pc + 1) lv (va :: va :: st) I J) : xT G F Q pc lv (va :: st) I J := fun p l e s m args below meth c A C H locs ls hl hP hS => lv_dup C.1 C.2.1 hd hva (k p l e s m args below meth c A C H locs ls hl hP hS)
theorem xr_pop {va : Value} (hd : decode F.2.1 pc = .ok (.pop, 1)) (hva : va.category = 1) (k : xT G F Q (pc + 1) lv (st) I J) : xT G F Q pc lv (va :: st) I J := fun p l e s m args below meth c A C H locs ls hl hP hS => lv_pop C.1 C.2.1 hd hva (k p l e s m args below meth c A C H locs ls hl hP hS)
theorem xr_dup_x1 {va vb : Value} (hd : decode F.2.1 pc = .ok (.dup_x1, 1)) (hva : va.category = 1) (hvb : vb.category = 1) (k : xT G F Q (pc + 1) lv (va :: vb :: va :: st) I J) : xT G F Q pc lv (va :: vb :: st) I J := fun p l e s m args below meth c A C H locs ls hl hP hS => lv_dup_x1 C.1 C.2.1 hd hva hvb (k p l e s m args below meth c A C H locs ls hl hP hS)
theorem xr_if_eq {x : Int32} {off : Int} (tgt : Nat) (hd : decode F.2.1 pc = .ok (.ifCond .eq off, 3)) (ht : (pc : Int) + off = (tgt : Int)) (kt : x = 0 → xT G F Q tgt lv (st) I J) (kf : ¬ x = 0 → xT G F Q (pc + 3) lv (st) I J) : xT G F Q pc lv (.int x :: st) I J := fun p l e s m args below meth c A C H locs ls hl hP hS => lv_if_eq C.1 C.2.1 hd ht (fun h => kt h p l e s m args below meth c A C H locs ls hl hP hS) (fun h => kf h p l e s m args below meth c A C H locs ls hl hP hS)
theorem xr_icmp_eq {x y : Int32} {off : Int} (tgt : Nat) (hd : decode F.2.1 pc = .ok (.if_icmp .eq off, 3)) (ht : (pc : Int) + off = (tgt : Int)) (kt : x = y → xT G F Q tgt lv (st) I J) (kf : ¬ x = y → xT G F Q (pc + 3) lv (st) I J) : xT G F Q pc lv (.int y :: .int x :: st) I J := fun p l e s m args below meth c A C H locs ls hl hP hS => lv_icmp_eq C.1 C.2.1 hd ht (fun h => kt h p l e s m args below meth c A C H locs ls hl hP hS) (fun h => kf h p l e s m args below meth c A C H locs ls hl hP hS)
theorem xr_if_ne {x : Int32} {off : Int} (tgt : Nat) (hd : decode F.2.1 pc = .ok (.ifCond .ne off, 3)) (ht : (pc : Int) + off = (tgt : Int)) (kt : ¬ x = 0 → xT G F Q tgt lv (st) I J) (kf : x = 0 → xT G F Q (pc + 3) lv (st) I J) : xT G F Q pc lv (.int x :: st) I J := fun p l e s m args below meth c A C H locs ls hl hP hS => lv_if_ne C.1 C.2.1 hd ht (fun h => kt h p l e s m args below meth c A C H locs ls hl hP hS) (fun h => kf h p l e s m args below meth c A C H locs ls hl hP hS)
theorem xr_icmp_ne {x y : Int32} {off : Int} (tgt : Nat) (hd : decode F.2.1 pc = .ok (.if_icmp .ne off, 3)) (ht : (pc : Int) + off = (tgt : Int)) (kt : ¬ x = y → xT G F Q tgt lv (st) I J) (kf : x = y → xT G F Q (pc + 3) lv (st) I J) : xT G F Q pc lv (.int y :: .int x :: st) I J := fun p l e s m args below meth c A C H locs ls hl hP hS => lv_icmp_ne C.1 C.2.1 hd ht (fun h => kt h p l e s m args below meth c A C H locs ls hl hP hS) (fun h => kf h p l e s m args below meth c A C H locs ls hl hP hS)
theorem xr_if_lt {x : Int32} {off : Int} (tgt : Nat) (hd : decode F.2.1 pc = .ok (.ifCond .lt off, 3)) (ht : (pc : Int) + off = (tgt : Int)) (kt : x < 0 → xT G F Q tgt lv (st) I J) (kf : ¬ x < 0 → xT G F Q (pc + 3) lv (st) I J) : xT G F Q pc lv (.int x :: st) I J := fun p l e s m args below meth c A C H locs ls hl hP hS => lv_if_lt C.1 C.2.1 hd ht (fun h => kt h p l e s m args below meth c A C H locs ls hl hP hS) (fun h => kf h p l e s m args below meth c A C H locs ls hl hP hS)
theorem xr_icmp_lt {x y : Int32} {off : Int} (tgt : Nat) (hd : decode F.2.1 pc = .ok (.if_icmp .lt off, 3)) (ht : (pc : Int) + off = (tgt : Int)) (kt : x < y → xT G F Q tgt lv (st) I J) (kf : ¬ x < y → xT G F Q (pc + 3) lv (st) I J) : xT G F Q pc lv (.int y :: .int x :: st) I J := fun p l e s m args below meth c A C H locs ls hl hP hS => lv_icmp_lt C.1 C.2.1 hd ht (fun h => kt h p l e s m args below meth c A C H locs ls hl hP hS) (fun h => kf h p l e s m args below meth c A C H locs ls hl hP hS)
theorem xr_if_ge {x : Int32} {off : Int} (tgt : Nat) (hd : decode F.2.1 pc = .ok (.ifCond .ge off, 3)) (ht : (pc : Int) + off = (tgt : Int)) (kt : 0 ≤ x → xT G F Q tgt lv (st) I J) (kf : ¬ 0 ≤ x → xT G F Q (pc + 3) lv (st) I J) : xT G F Q pc lv (.int x :: st) I J := fun p l e s m args below meth c A C H locs ls hl hP hS => lv_if_ge C.1 C.2.1 hd ht (fun h => kt h p l e s m args below meth c A C H locs ls hl hP hS) (fun h => kf h p l e s m args below meth c A C H locs ls hl hP hS)
theorem xr_icmp_ge {x y : Int32} {off : Int} (tgt : Nat) (hd : decode F.2.1 pc = .ok (.if_icmp .ge off, 3)) (ht : (pc : Int) + off = (tgt : Int)) (kt : y ≤ x → xT G F Q tgt lv (st) I J) (kf : ¬ y ≤ x → xT G F Q (pc + 3) lv (st) I J) : xT G F Q pc lv (.int y :: .int x :: st) I J := fun p l e s m args below meth c A C H locs ls hl hP hS => lv_icmp_ge C.1 C.2.1 hd ht (fun h => kt h p l e s m args below meth c A C H locs ls hl hP hS) (fun h => kf h p l e s m args below meth c A C H locs ls hl hP hS)
theorem xr_if_gt {x : Int32} {off : Int} (tgt : Nat) (hd : decode F.2.1 pc = .ok (.ifCond .gt off, 3)) (ht : (pc : Int) + off = (tgt : Int)) (kt : 0 < x → xT G F Q tgt lv (st) I J) (kf : ¬ 0 < x → xT G F Q (pc + 3) lv (st) I J) : xT G F Q pc lv (.int x :: st) I J := fun p l e s m args below meth c A C H locs ls hl hP hS => lv_if_gt C.1 C.2.1 hd ht (fun h => kt h p l e s m args below meth c A C H locs ls hl hP hS) (fun h => kf h p l e s m args below meth c A C H locs ls hl hP hS)
theorem xr_icmp_gt {x y : Int32} {off : Int} (tgt : Nat) (hd : decode F.2.1 pc = .ok (.if_icmp .gt off, 3)) (ht : (pc : Int) + off = (tgt : Int)) (kt : y < x → xT G F Q tgt lv (st) I J) (kf : ¬ y < x → xT G F Q (pc + 3) lv (st) I J) : xT G F Q pc lv (.int y :: .int x :: st) I J := fun p l e s m args below meth c A C H locs ls hl hP hS => lv_icmp_gt C.1 C.2.1 hd ht (fun h => kt h p l e s m args below meth c A C H locs ls hl hP hS) (fun h => kf h p l e s m args below meth c A C H locs ls hl hP hS)
theorem xr_if_le {x : Int32} {off : Int} (tgt : Nat) (hd : decode F.2.1 pc = .ok (.ifCond .le off, 3)) (ht : (pc : Int) + off = (tgt : Int)) (kt : x ≤ 0 → xT G F Q tgt lv (st) I J) (kf : ¬ x ≤ 0 → xT G F Q (pc + 3) lv (st) I J) : xT G F Q pc lv (.int x :: st) I J := fun p l e s m args below meth c A C H locs ls hl hP hS => lv_if_le C.1 C.2.1 hd ht (fun h => kt h p l e s m args below meth c A C H locs ls hl hP hS) (fun h => kf h p l e s m args below meth c A C H locs ls hl hP hS)
theorem xr_icmp_le {x y : Int32} {off : Int} (tgt : Nat) (hd : decode F.2.1 pc = .ok (.if_icmp .le off, 3)) (ht : (pc : Int) + off = (tgt : Int)) (kt : x ≤ y → xT G F Q tgt lv (st) I J) (kf : ¬ x ≤ y → xT G F Q (pc + 3) lv (st) I J) : xT G F Q pc lv (.int y :: .int x :: st) I J := fun p l e s m args below meth c A C H locs ls hl hP hS => lv_icmp_le C.1 C.2.1 hd ht (fun h => kt h p l e s m args below meth c A C H locs ls hl hP hS) (fun h => kf h p l e s m args below meth c A C H locs ls hl hP hS)
theorem xr_goto {off : Int} (tgt : Nat) (hd : decode F.2.1 pc = .ok (.goto off, 3)) (ht : (pc : Int) + off = (tgt : Int)) (k : xT G F Q tgt lv (st) I J) : xT G F Q pc lv (st) I J := fun p l e s m args below meth c A C H locs ls hl hP hS => lv_goto C.1 C.2.1 hd ht (k p l e s m args below meth c A C H locs ls hl hP hS)
theorem xr_tabOut {dflt lo hi : Int} {offs : Array Int} {len : Nat} {x : Int32} (tgt : Nat) (hd : decode F.2.1 pc = .ok (.tableswitch dflt lo hi offs, len)) (h : x.toInt < lo ∨ hi < x.toInt) (ht : (pc : Int) + dflt = (tgt : Int)) (k : xT G F Q tgt lv (st) I J) : xT G F Q pc lv (.int x :: st) I J := fun p l e s m args below meth c A C H locs ls hl hP hS => lv_tableOut C.1 C.2.1 hd h ht (k p l e s m args below meth c A C H locs ls hl hP hS)
theorem xr_tabIn {dflt lo hi off : Int} {offs : Array Int} {len : Nat} {x : Int32} (tgt : Nat) (hd : decode F.2.1 pc = .ok (.tableswitch dflt lo hi offs, len)) (h1 : ¬ x.toInt < lo) (h2 : ¬ hi < x.toInt) (ho : offs[(x.toInt - lo).toNat]? = some off) (ht : (pc : Int) + off = (tgt : Int)) (k : xT G F Q tgt lv (st) I J) : xT G F Q pc lv (.int x :: st) I J := fun p l e s m args below meth c A C H locs ls hl hP hS => lv_tableIn C.1 C.2.1 hd h1 h2 ho ht (k p l e s m args below meth c A C H locs ls hl hP hS)
theorem xr_look {dflt off : Int} {ps : Array (Int × Int)} {len : Nat} {x : Int32} (tgt : Nat) (hd : decode F.2.1 pc = .ok (.lookupswitch dflt ps, len)) (hp : (ps.toList.zip (ps.toList.drop 1)).all (fun (a, next) => a.1 < next.1) = true) (ho : Op.lookupswitch.offset ps.toList dflt x.toInt = off) (ht : (pc : Int) + off = (tgt : Int)) (k : xT G F Q tgt lv (st) I J) : xT G F Q pc lv (.int x :: st) I J := fun p l e s m args below meth c A C H locs ls hl hP hS => lv_lookup C.1 C.2.1 hd hp ho ht (k p l e s m args below meth c A C H locs ls hl hP hS)
end XR
end
section
set_option maxRecDepth 100000 in
theorem xcin_0 : ∀ w ∈ u_ws RX0 TX0 5, w ∈ xw := by decide +kernel
set_option maxRecDepth 100000 in
theorem xcin_1 : ∀ w ∈ u_ws RX1 TX1 4, w ∈ xw := by decide +kernel
set_option maxRecDepth 100000 in
theorem xcin_2 : ∀ w ∈ u_ws RX2 TX2 8, w ∈ xw := by decide +kernel
set_option maxRecDepth 100000 in
theorem xcin_3 : ∀ w ∈ u_ws RX3 TX3 10, w ∈ xw := by decide +kernel
set_option maxRecDepth 100000 in
theorem xcin_4 : ∀ w ∈ u_ws RX4 TX4 13, w ∈ xw := by decide +kernel
set_option maxRecDepth 100000 in
theorem xcin_5 : ∀ w ∈ u_ws RX5 TX5 4, w ∈ xw := by decide +kernel
set_option maxRecDepth 100000 in
theorem xcin_6 : ∀ w ∈ u_ws RX6 TX6 10, w ∈ xw := by decide +kernel
set_option maxRecDepth 100000 in
theorem xcin_7 : ∀ w ∈ u_ws RX7 TX7 2, w ∈ xw := by decide +kernel
set_option maxRecDepth 100000 in
theorem xcin_8 : ∀ w ∈ u_ws RX8 TX8 9, w ∈ xw := by decide +kernel
set_option maxRecDepth 100000 in
theorem xcin_9 : ∀ w ∈ u_ws RX9 TX9 42, w ∈ xw := by decide +kernel
def xK (q : vw_C) : Prop := (∀ w ∈ u_ws q.1 q.2.1 q.2.2, w ∈ xw) ∧ ∃ ty0 : Nat → FieldType, (∀ k, k < q.2.2 → parseFieldDescriptor (q.2.1 k).2.2.1 = some (ty0 k)) ∧ ∀ a, a < q.2.2 → ∀ b, b < q.2.2 → a ≠ b → (q.2.1 a).2.1 ≠ (q.2.1 b).2.1
theorem xcls : ∀ (ci : Nat) (q : vw_C), xcl[ci]? = some q → xK q
  | 0, q, h => by cases h; exact ⟨xcin_0, tyX0, tyX0_ok, nmX0⟩
  | 1, q, h => by cases h; exact ⟨xcin_1, tyX1, tyX1_ok, nmX1⟩
  | 2, q, h => by cases h; exact ⟨xcin_2, tyX2, tyX2_ok, nmX2⟩
  | 3, q, h => by cases h; exact ⟨xcin_3, tyX3, tyX3_ok, nmX3⟩
  | 4, q, h => by cases h; exact ⟨xcin_4, tyX4, tyX4_ok, nmX4⟩
  | 5, q, h => by cases h; exact ⟨xcin_5, tyX5, tyX5_ok, nmX5⟩
  | 6, q, h => by cases h; exact ⟨xcin_6, tyX6, tyX6_ok, nmX6⟩
  | 7, q, h => by cases h; exact ⟨xcin_7, tyX7, tyX7_ok, nmX7⟩
  | 8, q, h => by cases h; exact ⟨xcin_8, tyX8, tyX8_ok, nmX8⟩
  | 9, q, h => by cases h; exact ⟨xcin_9, tyX9, tyX9_ok, nmX9⟩
  | n + 10, q, h => by simp [xcl] at h
def xlk (own : String) (ix ci j : Nat) : Prop := ∃ q : vw_C, xcl[ci]? = some q ∧ j < q.2.2 ∧ Cond.fieldLink own ix (q.2.1 j).1 (q.2.1 j).2.1 (q.2.1 j).2.2.1 ∈ xw
def xlp (own : String) (ix ci j : Nat) (ty : FieldType) : Prop := ∃ q : vw_C, xcl[ci]? = some q ∧ j < q.2.2 ∧ Cond.fieldLink own ix (q.2.1 j).1 (q.2.1 j).2.1 (q.2.1 j).2.2.1 ∈ xw ∧ (q.2.1 j).2.2.2 = false ∧ parseFieldDescriptor (q.2.1 j).2.2.1 = some ty
theorem xws_o {G : xG} {I : xI} {J : xJ} {k ci j : Nat} {fs : List xs_F} {sp : xs_F} (hl : lay k = .inl (ci, fs)) (hj : fs[j]? = some sp) : (xws G I J)[k]? = some (G.1 k, .inr (ci, xs_fs G.1 (I k) (J k) 0 fs)) := by
  rw [xws_at (lay_lt_o hl hj)]
  simp only [xs_e, xs_c, hl]
theorem xws_a {G : xG} {I : xI} {J : xJ} {k : Nat} {a : Nat × Nat × (Nat → Nat)} (hl : lay k = .inr a) : (xws G I J)[k]? = some (G.1 k, xs_a G (I k) (J k) a) := by
  rw [xws_at (lay_lt_a hl)]
  simp only [xs_e, xs_c, hl]
section XM
variable {G : xG} {F : xM} {Q : xQT} {pc : Nat} {lv : xL} {st : List Value} {I : xI} {J : xJ}
theorem xr_getI {k ci ix j : Nat} {fs : List xs_F} (hd : decode F.2.1 pc = .ok (.getfield ix, 3)) (hw : xlk F.1.cls ix ci j) (hl : lay k = .inl (ci, fs)) (hj : fs[j]? = some (.inr false)) (kk : xT G F Q (pc + 3) lv (.int (I k j) :: st) I J) : xT G F Q pc lv (.ref (G.1 k) :: st) I J := by
  intro p l e s m args below meth c A C H locs ls hl2 hP hS
  obtain ⟨q, hc, hjn, hlink⟩ := hw
  refine va_get (D := G.2.1) (ci := ci) (v := .int (I k j)) (C := q.1) (T := q.2.1) (N := q.2.2) C.1 C.2.1 C.2.2.2.2.1 (xcls ci q hc).1 C.2.2.2.1 C.2.2.2.2.2.1 hP k (xws_o hl hj) hc j hjn (C.2.2.2.2.1 _ hlink) (fun _ h => h) ?_ hd (kk p l e s m args below meth c A C H locs ls hl2 hP hS)
  rw [xs_fs_at, hj]
  simp [xs_v]
theorem xr_getJ {k ci ix j : Nat} {fs : List xs_F} (hd : decode F.2.1 pc = .ok (.getfield ix, 3)) (hw : xlk F.1.cls ix ci j) (hl : lay k = .inl (ci, fs)) (hj : fs[j]? = some (.inr true)) (kk : xT G F Q (pc + 3) lv (.long (J k j) :: st) I J) : xT G F Q pc lv (.ref (G.1 k) :: st) I J := by
  intro p l e s m args below meth c A C H locs ls hl2 hP hS
  obtain ⟨q, hc, hjn, hlink⟩ := hw
  refine va_get (D := G.2.1) (ci := ci) (v := .long (J k j)) (C := q.1) (T := q.2.1) (N := q.2.2) C.1 C.2.1 C.2.2.2.2.1 (xcls ci q hc).1 C.2.2.2.1 C.2.2.2.2.2.1 hP k (xws_o hl hj) hc j hjn (C.2.2.2.2.1 _ hlink) (fun _ h => h) ?_ hd (kk p l e s m args below meth c A C H locs ls hl2 hP hS)
  rw [xs_fs_at, hj]
  simp [xs_v]
theorem xr_getR {k ci ix j r : Nat} {fs : List xs_F} (hd : decode F.2.1 pc = .ok (.getfield ix, 3)) (hw : xlk F.1.cls ix ci j) (hl : lay k = .inl (ci, fs)) (hj : fs[j]? = some (.inl r)) (kk : xT G F Q (pc + 3) lv (.ref (G.1 r) :: st) I J) : xT G F Q pc lv (.ref (G.1 k) :: st) I J := by
  intro p l e s m args below meth c A C H locs ls hl2 hP hS
  obtain ⟨q, hc, hjn, hlink⟩ := hw
  refine va_get (D := G.2.1) (ci := ci) (v := .ref (G.1 r)) (C := q.1) (T := q.2.1) (N := q.2.2) C.1 C.2.1 C.2.2.2.2.1 (xcls ci q hc).1 C.2.2.2.1 C.2.2.2.2.2.1 hP k (xws_o hl hj) hc j hjn (C.2.2.2.2.1 _ hlink) (fun _ h => h) ?_ hd (kk p l e s m args below meth c A C H locs ls hl2 hP hS)
  rw [xs_fs_at, hj]
  simp [xs_v]
theorem xr_putI {k ci ix j : Nat} {fs : List xs_F} {x : Int32} (hd : decode F.2.1 pc = .ok (.putfield ix, 3)) (hw : xlp F.1.cls ix ci j .int) (hl : lay k = .inl (ci, fs)) (hj : fs[j]? = some (.inr false)) (kk : xT G F Q (pc + 3) lv st (va_up I k (upd (I k) j x)) J) : xT G F Q pc lv (.int x :: .ref (G.1 k) :: st) I J := by
  intro p l e s m args below meth c A C H locs ls hl2 hP hS
  obtain ⟨q, hc, hjn, hlink, hfin, hpd⟩ := hw
  obtain ⟨hin, ty0, hty, hnm⟩ := xcls ci q hc
  have hD : va_D A (xws G I J) := xD C.2.2.2.2.2.2.1 C.2.2.2.2.2.2.2.1
  have hjl : j < (xs_fs G.1 (I k) (J k) 0 fs).length := by
    rw [xs_fs_len]; exact (List.getElem?_eq_some_iff.mp hj).1
  refine va_put (D := G.2.1) (ci := ci) (v := .int x) (ty := .int) (C := q.1) (T := q.2.1) (N := q.2.2) C.1 C.2.1 C.2.2.2.2.1 hin ty0 hty hnm C.2.2.2.1 C.2.2.2.2.2.1 hP hD hS k (xws_o hl hj) hc j hjn (C.2.2.2.2.1 _ hlink) (fun _ h => h) hfin hpd rfl rfl hjl hd (fun H1 locs1 hP1 hD1 hS1 => kk p l e s m args below meth c A C H1 locs1 ls hl2 ?_ hS1)
  rw [xs_fs_setI G.1 (I k) (J k) hj x, xws_setI (i := upd (I k) j x) (lay_lt_o hl hj) (by simp only [xs_c, hl])] at hP1
  exact hP1
theorem xr_putZ {k ci ix j : Nat} {fs : List xs_F} {x : Int32} (hd : decode F.2.1 pc = .ok (.putfield ix, 3)) (hw : xlp F.1.cls ix ci j .boolean) (hl : lay k = .inl (ci, fs)) (hj : fs[j]? = some (.inr false)) (hx : x = 0 ∨ x = 1) (kk : xT G F Q (pc + 3) lv st (va_up I k (upd (I k) j x)) J) : xT G F Q pc lv (.int x :: .ref (G.1 k) :: st) I J := by
  intro p l e s m args below meth c A C H locs ls hl2 hP hS
  obtain ⟨q, hc, hjn, hlink, hfin, hpd⟩ := hw
  obtain ⟨hin, ty0, hty, hnm⟩ := xcls ci q hc
  have hD : va_D A (xws G I J) := xD C.2.2.2.2.2.2.1 C.2.2.2.2.2.2.2.1
  have hjl : j < (xs_fs G.1 (I k) (J k) 0 fs).length := by
    rw [xs_fs_len]; exact (List.getElem?_eq_some_iff.mp hj).1
  refine va_put (D := G.2.1) (ci := ci) (v := .int x) (ty := .boolean) (C := q.1) (T := q.2.1) (N := q.2.2) C.1 C.2.1 C.2.2.2.2.1 hin ty0 hty hnm C.2.2.2.1 C.2.2.2.2.2.1 hP hD hS k (xws_o hl hj) hc j hjn (C.2.2.2.2.1 _ hlink) (fun _ h => h) hfin hpd (by rcases hx with h | h <;> subst h <;> decide) (by rcases hx with h | h <;> subst h <;> decide) hjl hd (fun H1 locs1 hP1 hD1 hS1 => kk p l e s m args below meth c A C H1 locs1 ls hl2 ?_ hS1)
  rw [xs_fs_setI G.1 (I k) (J k) hj x, xws_setI (i := upd (I k) j x) (lay_lt_o hl hj) (by simp only [xs_c, hl])] at hP1
  exact hP1
theorem xr_putJ {k ci ix j : Nat} {fs : List xs_F} {x : Int64} (hd : decode F.2.1 pc = .ok (.putfield ix, 3)) (hw : xlp F.1.cls ix ci j .long) (hl : lay k = .inl (ci, fs)) (hj : fs[j]? = some (.inr true)) (kk : xT G F Q (pc + 3) lv st I (va_up J k (vp_updL (J k) j x))) : xT G F Q pc lv (.long x :: .ref (G.1 k) :: st) I J := by
  intro p l e s m args below meth c A C H locs ls hl2 hP hS
  obtain ⟨q, hc, hjn, hlink, hfin, hpd⟩ := hw
  obtain ⟨hin, ty0, hty, hnm⟩ := xcls ci q hc
  have hD : va_D A (xws G I J) := xD C.2.2.2.2.2.2.1 C.2.2.2.2.2.2.2.1
  have hjl : j < (xs_fs G.1 (I k) (J k) 0 fs).length := by
    rw [xs_fs_len]; exact (List.getElem?_eq_some_iff.mp hj).1
  refine va_put (D := G.2.1) (ci := ci) (v := .long x) (ty := .long) (C := q.1) (T := q.2.1) (N := q.2.2) C.1 C.2.1 C.2.2.2.2.1 hin ty0 hty hnm C.2.2.2.1 C.2.2.2.2.2.1 hP hD hS k (xws_o hl hj) hc j hjn (C.2.2.2.2.1 _ hlink) (fun _ h => h) hfin hpd rfl rfl hjl hd (fun H1 locs1 hP1 hD1 hS1 => kk p l e s m args below meth c A C H1 locs1 ls hl2 ?_ hS1)
  rw [xs_fs_setJ G.1 (I k) (J k) hj x, xws_setJ (j := vp_updL (J k) j x) (lay_lt_o hl hj) (by simp only [xs_c, hl])] at hP1
  exact hP1
theorem xr_iald {k n : Nat} {rf : Nat → Nat} {i : Int32} (j : Nat) (hd : decode F.2.1 pc = .ok (.iaload, 1)) (hl : lay k = .inr (0, n, rf)) (hi : i = nI j) (hj : j < n) (hn : n < 2 ^ 31) (kk : xT G F Q (pc + 1) lv (.int (I k j) :: st) I J) : xT G F Q pc lv (.int i :: .ref (G.1 k) :: st) I J := by
  intro p l e s m args below meth c A C H locs ls hl2 hP hS
  subst hi
  refine va_iald (D := G.2.1) C.1 C.2.1 C.2.2.2.2.2.1 hP k 0 (xws_a hl) rfl (vp_in_nI hj hn) hd ?_
  rw [nI_clamp (by omega)]
  exact kk p l e s m args below meth c A C H locs ls hl2 hP hS
theorem xr_zald {k n : Nat} {rf : Nat → Nat} {i : Int32} (j : Nat) (hd : decode F.2.1 pc = .ok (.baload, 1)) (hl : lay k = .inr (2, n, rf)) (hi : i = nI j) (hj : j < n) (hn : n < 2 ^ 31) (kk : xT G F Q (pc + 1) lv (.int (I k j) :: st) I J) : xT G F Q pc lv (.int i :: .ref (G.1 k) :: st) I J := by
  intro p l e s m args below meth c A C H locs ls hl2 hP hS
  subst hi
  refine va_zald (D := G.2.1) C.1 C.2.1 C.2.2.2.2.2.1 hP k 2 (xws_a hl) rfl (vp_in_nI hj hn) hd ?_
  rw [nI_clamp (by omega)]
  exact kk p l e s m args below meth c A C H locs ls hl2 hP hS
theorem xr_lald {k n : Nat} {rf : Nat → Nat} {i : Int32} (j : Nat) (hd : decode F.2.1 pc = .ok (.laload, 1)) (hl : lay k = .inr (1, n, rf)) (hi : i = nI j) (hj : j < n) (hn : n < 2 ^ 31) (kk : xT G F Q (pc + 1) lv (.long (J k j) :: st) I J) : xT G F Q pc lv (.int i :: .ref (G.1 k) :: st) I J := by
  intro p l e s m args below meth c A C H locs ls hl2 hP hS
  subst hi
  refine va_lald (D := G.2.1) C.1 C.2.1 C.2.2.2.2.2.1 hP k 1 (xws_a hl) rfl (vp_in_nI hj hn) hd ?_
  rw [nI_clamp (by omega)]
  exact kk p l e s m args below meth c A C H locs ls hl2 hP hS
theorem xr_aald3 {k n : Nat} {rf : Nat → Nat} {i : Int32} (j : Nat) (hd : decode F.2.1 pc = .ok (.aaload, 1)) (hl : lay k = .inr (3, n, rf)) (hi : i = nI j) (hj : j < n) (hn : n < 2 ^ 31) (kk : xT G F Q (pc + 1) lv (.ref (G.1 (rf j)) :: st) I J) : xT G F Q pc lv (.int i :: .ref (G.1 k) :: st) I J := by
  intro p l e s m args below meth c A C H locs ls hl2 hP hS
  subst hi
  refine va_aldq (D := G.2.1) C.1 C.2.1 C.2.2.2.2.2.1 hP k 3 (xws_a hl) rfl (vp_in_nI hj hn) hd ?_
  rw [nI_clamp (by omega)]
  exact kk p l e s m args below meth c A C H locs ls hl2 hP hS
theorem xr_aald4 {k n : Nat} {rf : Nat → Nat} {i : Int32} (j : Nat) (hd : decode F.2.1 pc = .ok (.aaload, 1)) (hl : lay k = .inr (4, n, rf)) (hi : i = nI j) (hj : j < n) (hn : n < 2 ^ 31) (kk : xT G F Q (pc + 1) lv (.ref (G.1 (rf j)) :: st) I J) : xT G F Q pc lv (.int i :: .ref (G.1 k) :: st) I J := by
  intro p l e s m args below meth c A C H locs ls hl2 hP hS
  subst hi
  refine va_aldq (D := G.2.1) C.1 C.2.1 C.2.2.2.2.2.1 hP k 4 (xws_a hl) rfl (vp_in_nI hj hn) hd ?_
  rw [nI_clamp (by omega)]
  exact kk p l e s m args below meth c A C H locs ls hl2 hP hS
theorem xr_alen0 {k n : Nat} {rf : Nat → Nat} (hd : decode F.2.1 pc = .ok (.arraylength, 1)) (hl : lay k = .inr (0, n, rf)) (kk : xT G F Q (pc + 1) lv (.int (nI n) :: st) I J) : xT G F Q pc lv (.ref (G.1 k) :: st) I J := by
  intro p l e s m args below meth c A C H locs ls hl2 hP hS
  exact va_alen (D := G.2.1) (x := (n, .inl (I k))) C.1 C.2.1 C.2.2.2.2.2.1 hP k 0 (xws_a hl) rfl rfl hd (kk p l e s m args below meth c A C H locs ls hl2 hP hS)
theorem xr_alen1 {k n : Nat} {rf : Nat → Nat} (hd : decode F.2.1 pc = .ok (.arraylength, 1)) (hl : lay k = .inr (1, n, rf)) (kk : xT G F Q (pc + 1) lv (.int (nI n) :: st) I J) : xT G F Q pc lv (.ref (G.1 k) :: st) I J := by
  intro p l e s m args below meth c A C H locs ls hl2 hP hS
  exact va_alen (D := G.2.1) (x := (n, .inr (.inl (J k)))) C.1 C.2.1 C.2.2.2.2.2.1 hP k 1 (xws_a hl) rfl rfl hd (kk p l e s m args below meth c A C H locs ls hl2 hP hS)
theorem xr_iast {k n : Nat} {rf : Nat → Nat} {i x : Int32} (j : Nat) (hd : decode F.2.1 pc = .ok (.iastore, 1)) (hl : lay k = .inr (0, n, rf)) (hi : i = nI j) (hj : j < n) (hn : n < 2 ^ 31) (kk : xT G F Q (pc + 1) lv st (va_up I k (upd (I k) j x)) J) : xT G F Q pc lv (.int x :: .int i :: .ref (G.1 k) :: st) I J := by
  intro p l e s m args below meth c A C H locs ls hl2 hP hS
  subst hi
  have hD : va_D A (xws G I J) := xD C.2.2.2.2.2.2.1 C.2.2.2.2.2.2.2.1
  refine va_iast (D := G.2.1) C.1 C.2.1 C.2.2.2.2.2.1 hP hD hS k 0 (xws_a hl) rfl (vp_in_nI hj hn) hd (fun H1 locs1 hP1 hD1 hS1 => kk p l e s m args below meth c A C H1 locs1 ls hl2 ?_ hS1)
  rw [nI_clamp (by omega), xws_setI (i := upd (I k) j x) (lay_lt_a hl) (by simp only [xs_c, hl]; rfl)] at hP1
  exact hP1
theorem xr_zast {k n : Nat} {rf : Nat → Nat} {i x : Int32} (j : Nat) (hd : decode F.2.1 pc = .ok (.bastore, 1)) (hl : lay k = .inr (2, n, rf)) (hi : i = nI j) (hj : j < n) (hn : n < 2 ^ 31) (hx : x = 0 ∨ x = 1) (kk : xT G F Q (pc + 1) lv st (va_up I k (upd (I k) j x)) J) : xT G F Q pc lv (.int x :: .int i :: .ref (G.1 k) :: st) I J := by
  intro p l e s m args below meth c A C H locs ls hl2 hP hS
  subst hi
  have hD : va_D A (xws G I J) := xD C.2.2.2.2.2.2.1 C.2.2.2.2.2.2.2.1
  refine va_zast (D := G.2.1) C.1 C.2.1 C.2.2.2.2.2.1 hP hD hS k 2 (xws_a hl) rfl (vp_in_nI hj hn) hd (fun H1 locs1 hP1 hD1 hS1 => kk p l e s m args below meth c A C H1 locs1 ls hl2 ?_ hS1)
  rw [nI_clamp (by omega), show vp_nar .boolean x = x by rcases hx with h | h <;> subst h <;> decide, xws_setI (i := upd (I k) j x) (lay_lt_a hl) (by simp only [xs_c, hl]; rfl)] at hP1
  exact hP1
theorem xr_last {k n : Nat} {rf : Nat → Nat} {i : Int32} {x : Int64} (j : Nat) (hd : decode F.2.1 pc = .ok (.lastore, 1)) (hl : lay k = .inr (1, n, rf)) (hi : i = nI j) (hj : j < n) (hn : n < 2 ^ 31) (kk : xT G F Q (pc + 1) lv st I (va_up J k (vp_updL (J k) j x))) : xT G F Q pc lv (.long x :: .int i :: .ref (G.1 k) :: st) I J := by
  intro p l e s m args below meth c A C H locs ls hl2 hP hS
  subst hi
  have hD : va_D A (xws G I J) := xD C.2.2.2.2.2.2.1 C.2.2.2.2.2.2.2.1
  refine va_last (D := G.2.1) C.1 C.2.1 C.2.2.2.2.2.1 hP hD hS k 1 (xws_a hl) rfl (vp_in_nI hj hn) hd (fun H1 locs1 hP1 hD1 hS1 => kk p l e s m args below meth c A C H1 locs1 ls hl2 ?_ hS1)
  rw [nI_clamp (by omega), xws_setJ (j := vp_updL (J k) j x) (lay_lt_a hl) (by simp only [xs_c, hl]; rfl)] at hP1
  exact hP1
-- returns
def xpi (post : Int32 → xI → xJ → Prop) : Option Value → xI → xJ → Prop := fun r I J => ∃ v : Int32, r = some (.int v) ∧ post v I J
def xpl (post : Int64 → xI → xJ → Prop) : Option Value → xI → xJ → Prop := fun r I J => ∃ v : Int64, r = some (.long v) ∧ post v I J
def xpv (post : xI → xJ → Prop) : Option Value → xI → xJ → Prop := fun r I J => r = none ∧ post I J
theorem xr_iret {post : Int32 → xI → xJ → Prop} {v : Int32} (hd : decode F.2.1 pc = .ok (.ireturn, 1)) (hr : F.2.2.2.1 = some .int) (hz : F.2.2.2.2.2 = (0, 0)) (hp : post v I J) : xT G F (xMQ G (xpi post)) pc lv [.int v] I J := by
  intro p l e s m args below meth c A C H locs ls hl2 hP hS
  rw [show F.2.2.2.2.2.1 = 0 by rw [hz], show F.2.2.2.2.2.2 = 0 by rw [hz]]
  exact W.iret (v := v) C.1 C.2.1 (C.2.2.2.2.2.2.2.2.2.1.trans hr) (fun t ht hW => ⟨⟨some (.int v), I, J, rfl, ⟨v, rfl, hp⟩, by rw [ht]; exact hP⟩, hS.F ht⟩) hS.2.2 hd C.2.2.2.2.2.2.2.2.1
theorem xr_zret {post : Int32 → xI → xJ → Prop} {v : Int32} (hd : decode F.2.1 pc = .ok (.ireturn, 1)) (hr : F.2.2.2.1 = some .boolean) (hz : F.2.2.2.2.2 = (0, 0)) (hv : v = 0 ∨ v = 1) (hp : post v I J) : xT G F (xMQ G (xpi post)) pc lv [.int v] I J := by
  intro p l e s m args below meth c A C H locs ls hl2 hP hS
  rw [show F.2.2.2.2.2.1 = 0 by rw [hz], show F.2.2.2.2.2.2 = 0 by rw [hz]]
  exact W.zret (v := v) (ty := .boolean) C.1 C.2.1 (C.2.2.2.2.2.2.2.2.2.1.trans hr) (by rcases hv with h | h <;> subst h <;> decide) (fun t ht hW => ⟨⟨some (.int v), I, J, rfl, ⟨v, rfl, hp⟩, by rw [ht]; exact hP⟩, hS.F ht⟩) hS.2.2 hd C.2.2.2.2.2.2.2.2.1
theorem xr_lret {post : Int64 → xI → xJ → Prop} {v : Int64} (hd : decode F.2.1 pc = .ok (.lreturn, 1)) (hr : F.2.2.2.1 = some .long) (hz : F.2.2.2.2.2 = (0, 0)) (hp : post v I J) : xT G F (xMQ G (xpl post)) pc lv [.long v] I J := by
  intro p l e s m args below meth c A C H locs ls hl2 hP hS
  rw [show F.2.2.2.2.2.1 = 0 by rw [hz], show F.2.2.2.2.2.2 = 0 by rw [hz]]
  exact W.lret (v := v) C.1 C.2.1 (C.2.2.2.2.2.2.2.2.2.1.trans hr) (fun t ht hW => ⟨⟨some (.long v), I, J, rfl, ⟨v, rfl, hp⟩, by rw [ht]; exact hP⟩, hS.F ht⟩) hS.2.2 hd C.2.2.2.2.2.2.2.2.1
theorem xr_vret {post : xI → xJ → Prop} (hd : decode F.2.1 pc = .ok (.return_, 1)) (hr : F.2.2.2.1 = none) (hz : F.2.2.2.2.2 = (0, 0)) (hp : post I J) : xT G F (xMQ G (xpv post)) pc lv [] I J := by
  intro p l e s m args below meth c A C H locs ls hl2 hP hS
  rw [show F.2.2.2.2.2.1 = 0 by rw [hz], show F.2.2.2.2.2.2 = 0 by rw [hz]]
  exact W.vret C.1 C.2.1 (C.2.2.2.2.2.2.2.2.2.1.trans hr) (fun t ht hW => ⟨⟨none, I, J, rfl, ⟨rfl, hp⟩, by rw [ht]; exact hP⟩, hS.F ht⟩) hS.2.2 hd C.2.2.2.2.2.2.2.2.1
theorem xCon.mono {av : List Value} {post post' : Option Value → xI → xJ → Prop} (h : xCon G F av I J post) (hp : ∀ r I' J', post r I' J' → post' r I' J') : xCon G F av I J post' := by
  intro l p e ha hc hk s m args below hf happ hP hT
  obtain ⟨k, o, a1, a2, a3, ⟨⟨⟨r, I', J', b1, b2, b3⟩, b4⟩, b5⟩⟩ := h l p e ha hc hk s m args below hf happ hP hT
  exact ⟨k, o, a1, a2, a3, ⟨⟨⟨r, I', J', b1, hp _ _ _ b2, b3⟩, b4⟩, b5⟩⟩
-- calls
theorem xPc_blind {av : List Value} : FrameBlind (xPc G av I J) := fun a U g mk q => by
  obtain ⟨q0, qP, qK, qN, qI⟩ := q
  exact ⟨q0, qP, va_K.moved (u := U) (U := U.calling g mk a) (Vm.Alike.refl U.vm) qK, va_Nw.same rfl rfl qN, qI⟩
theorem xPc_in {p : Program} {s : State} {m : MethodId} {args : Array Value} {meth : Method} {c : Code} {A : Nat → Prop} {H : Heap} {av : List Value} (C : xC G F p s m args meth c A) (hP : va_P G.2.1 xcl (xws G I J) H) : ∀ U : State, U.heap = H → s.WarmedH U.vm → xPc G av I J av.toArray U := fun U hU hW => ⟨rfl, by rw [hU]; exact hP, va_K.moved hW.alike C.2.2.2.2.2.1, va_Nw.warmM hW C.2.2.2.2.2.2.2.2.2.2, C.2.2.2.2.2.2.1⟩
theorem x_after {p : Program} {l : Launch} {e : Env} {R : Room} {s : State} {m : MethodId} {args : Array Value} {below : List Frame} {meth : Method} {c : Code} {H : Heap} {locs : List Loc} {cells slots : Nat} {QQ : State → Prop} {ls : Array Slot} {rest st0 : List Value} {a : Array Value} {A : Nat → Prop} {post : Option Value → xI → xJ → Prop}
    (hr : va_Run p l e R s m args below meth c H locs cells slots 0 0 (F0 m pc ls st0) rest (xQc G post (xA G) a) (xA G)) (hS : va_S A s.heap H locs) (hA : ∀ q, xA G q → A q)
    (kk : ∀ (r : Option Value) (I' : xI) (J' : xJ) (H1 : Heap) (locs1 : List Loc), post r I' J' → va_P G.2.1 xcl (xws G I' J') H1 → va_S A s.heap H1 locs1 → W p l e R s m args below meth c H1 locs1 cells slots QQ (F0 m (pc + 3) ls (r.toList ++ rest))) : W p l e R s m args below meth c H locs cells slots QQ (F0 m pc ls st0) := by
  intro T hT X
  obtain ⟨v, st₀, t, T', L, h0, X', hL, e1, e2, ⟨⟨r, I', J', hv, hp, hb⟩, hz, hk⟩, st⟩ := hr T hT X
  cases hv
  rw [h0] at hz hk
  obtain ⟨t2, a1, b1⟩ := kk v I' J' T'.heap (locs ++ L) hp (by rw [e1]; exact hb)
    ⟨Nat.le_trans hS.1 (by rw [e1]; exact hz), fun q h1 h2 => by rw [e1, hk q (Nat.lt_of_lt_of_le h1 hS.1) (fun z => h2 (hA q z))]; exact hS.2.1 q h1 h2, fun q hq => by
      rcases List.mem_append.mp hq with h | h
      · exact hS.2.2 q h
      · exact hA _ (hL q h)⟩ T' rfl X'
  exact ⟨t2, st t2 a1, b1⟩
def xcb (F F' : xM) (n : Nat) : Prop := Cond.code F'.1 F'.2.1 F'.2.2.1 F'.2.2.2.1 ∈ xw ∧ Cond.initialized F'.1.cls ∈ xw ∧ (F'.1.cls ≠ "java/lang/invoke/MethodHandle" ∧ F'.1.cls ≠ "java/lang/invoke/VarHandle" ∧ (parseMethodDescriptor F'.1.desc).map (fun d => d.parameters.length) = some n) ∧ (F'.2.2.2.2.1.frames + 1 ≤ F.2.2.2.2.1.frames ∧ 8 + (F'.2.2.1 + 11) + F'.2.2.2.2.1.locals ≤ F.2.2.2.2.1.locals) ∧ F'.2.2.2.2.1.cells = 0 ∧ F'.2.2.2.2.1.slots = 0 ∧ F.2.2.2.2.2.1 ≤ F.2.2.2.2.1.cells ∧ F.2.2.2.2.2.2 ≤ F.2.2.2.2.1.slots
def xcv (F F' : xM) (ix n : Nat) : Prop := xcb F F' n ∧ Cond.methodLink F.1.cls ix F'.1 ∈ xw ∧ Cond.instanceMethod F'.1 ∈ xw ∧ Cond.selects F'.1.cls F'.1 F'.1 ∈ xw
def xcs (F F' : xM) (ix n : Nat) : Prop := xcb F F' n ∧ Cond.methodLink F.1.cls ix F'.1 ∈ xw ∧ Cond.static F'.1 ∈ xw
theorem xcb.B {p : Program} {s : State} {m : MethodId} {args : Array Value} {meth : Method} {c : Code} {A : Nat → Prop} {F' : xM} {ix n : Nat} (h : xcb F F' n) (hl : Cond.methodLink F.1.cls ix F'.1 ∈ xw) (C : xC G F p s m args meth c A) : CallB F.2.2.2.2.1 s args F.1.cls ix F'.1 F'.2.1 F'.2.2.1 F'.2.2.2.1 (xown F') F'.2.2.2.2.1 0 0 n := by
  obtain ⟨h1, h2, h3, h4, h5, h6, h7, h8⟩ := h
  have hts := C.2.2.2.2.1
  exact callB_of (Ts := xw) (ws' := xw) n hts (fun w hw => by
    rcases List.mem_cons.mp hw with e | h
    · subst e
      exact ⟨h1, good_of_word (xw_good h1)⟩
    · exact ⟨h, good_of_word (xw_good h)⟩) rfl h5 h6 (hts _ h2) (hts _ hl) h3 h4
theorem xr_callV {F' : xM} {ix b n ci : Nat} {fs : List xs_F} {st0 : List Value} {post : Option Value → xI → xJ → Prop} (As : List Value) (hd : decode F.2.1 pc = .ok (.invokevirtual ix, 3)) (hw : xcv F F' ix n) (hn : As.length = n) (hl : lay b = .inl (ci, fs)) (hc0 : (xcl[ci]?).map (fun q => q.1) = some F'.1.cls) (hb : b < xN) (hst : st0 = As.reverse ++ .ref (G.1 b) :: st) (hrm : (st.map fun v => v.category).sum ≤ 8) (hc : xCon G F' (.ref (G.1 b) :: As) I J post) (kk : ∀ r I' J', post r I' J' → xT G F Q (pc + 3) lv (r.toList ++ st) I' J') : xT G F Q pc lv st0 I J := by
  intro p l e s m args below meth c A C H locs ls hl2 hP hS
  obtain ⟨hcb, hw1, hw2, hw3⟩ := hw
  have hts := C.2.2.2.2.1
  cases hq : xcl[ci]? with
  | none => rw [hq] at hc0; cases hc0
  | some q =>
    rw [hq] at hc0
    have hqc : q.1 = F'.1.cls := Option.some.inj hc0
    have he : (xws G I J)[b]? = some (G.1 b, .inr (ci, xs_fs G.1 (I b) (J b) 0 fs)) := by
      rw [xws_at hb]; simp only [xs_e, xs_c, hl]
    refine x_after (va_runV (C := F'.1.cls) (nL := F.2.2.1) (cc := F.2.1) (own := F.1.cls) (Ts := xw) (As := As) (rest := st) ⟨C.1, C.2.1, C.2.2.1, C.2.2.2.1, hts⟩ (hc l) ⟨hcb.B hw1 C, hts _ hw2, hts _ hw3⟩ ⟨xPc_blind, ?_, xPc_in C hP⟩ rfl hn hl2.1 hst (lv_room hrm) hd ⟨hcb.2.2.2.2.2.2.1, hcb.2.2.2.2.2.2.2⟩) hS (fun q hq => ?_) (fun r I' J' H1 locs1 hp hP1 hS1 => kk r I' J' hp p l e s m args below meth c A C H1 locs1 ls hl2 hP1 hS1)
    · have := va_recv C.2.2.2.2.2.1 hP hq he
      rw [hqc] at this
      exact this
    · obtain ⟨k, hk, rfl⟩ := hq
      exact C.2.2.2.2.2.2.2.1 k hk
theorem xr_callS {F' : xM} {ix n : Nat} {st0 : List Value} {post : Option Value → xI → xJ → Prop} (As : List Value) (hd : decode F.2.1 pc = .ok (.invokestatic ix, 3)) (hw : xcs F F' ix n) (hn : As.length = n) (hst : st0 = As.reverse ++ st) (hrm : (st.map fun v => v.category).sum ≤ 8) (hc : xCon G F' As I J post) (kk : ∀ r I' J', post r I' J' → xT G F Q (pc + 3) lv (r.toList ++ st) I' J') : xT G F Q pc lv st0 I J := by
  intro p l e s m args below meth c A C H locs ls hl2 hP hS
  obtain ⟨hcb, hw1, hw2⟩ := hw
  have hts := C.2.2.2.2.1
  refine x_after (va_runS (nL := F.2.2.1) (cc := F.2.1) (own := F.1.cls) (Ts := xw) (As := As) (rest := st) ⟨C.1, C.2.1, C.2.2.1, C.2.2.2.1, hts⟩ (hc l) ⟨hcb.B hw1 C, hts _ hw2⟩ ⟨xPc_blind, xPc_in C hP⟩ rfl hn hl2.1 hst (lv_room hrm) hd ⟨hcb.2.2.2.2.2.2.1, hcb.2.2.2.2.2.2.2⟩) hS (fun q hq => ?_) (fun r I' J' H1 locs1 hp hP1 hS1 => kk r I' J' hp p l e s m args below meth c A C H1 locs1 ls hl2 hP1 hS1)
  obtain ⟨k, hk, rfl⟩ := hq
  exact C.2.2.2.2.2.2.2.1 k hk
theorem xr_callG {F' : xM} {n : Nat} {st0 : List Value} {post : Option Value → xI → xJ → Prop} (As : List Value) (hd : decode F.2.1 pc = .ok (.invokestatic 60, 3)) (hF : F.1.cls = RX3) (hF' : F'.1 = yX8_isGoal) (hcb : xcb F F' n) (hw2 : Cond.static F'.1 ∈ xw) (hn : As.length = n) (hst : st0 = As.reverse ++ st) (hrm : (st.map fun v => v.category).sum ≤ 8) (hc : xCon G F' As I J post) (kk : ∀ r I' J', post r I' J' → xT G F Q (pc + 3) lv (r.toList ++ st) I' J') : xT G F Q pc lv st0 I J := by
  intro p l e s m args below meth c A C H locs ls hl2 hP hS
  have hts := C.2.2.2.2.1
  have hcw : va_CN F.2.2.2.2.1 s args F.1.cls 60 F'.1 RX8 F'.2.1 F'.2.2.1 F'.2.2.2.1 (xown F') F'.2.2.2.2.1 0 0 n := by
    obtain ⟨h1, h2, h3, h4, h5, h6, h7, h8⟩ := hcb
    exact va_cnB (Ts := xw) (ws' := xw) n hts (fun w hw => by
      rcases List.mem_cons.mp hw with e | h
      · subst e
        exact ⟨h1, good_of_word (xw_good h1)⟩
      · exact ⟨h, good_of_word (xw_good h)⟩) rfl h5 h6 (by rw [hF, hF']; exact C.2.2.2.2.2.2.2.2.2.2) (hts _ h2) h3 h4
  refine x_after (va_runSN (nL := F.2.2.1) (cc := F.2.1) (own := F.1.cls) (Ts := xw) (As := As) (rest := st) ⟨C.1, C.2.1, C.2.2.1, C.2.2.2.1, hts⟩ (hc l) ⟨hcw, hts _ hw2, trivial⟩ ⟨xPc_blind, xPc_in C hP⟩ rfl hn hl2.1 hst (lv_room hrm) hd ⟨hcb.2.2.2.2.2.2.1, hcb.2.2.2.2.2.2.2⟩) hS (fun q hq => ?_) (fun r I' J' H1 locs1 hp hP1 hS1 => kk r I' J' hp p l e s m args below meth c A C H1 locs1 ls hl2 hP1 hS1)
  obtain ⟨k, hk, rfl⟩ := hq
  exact C.2.2.2.2.2.2.2.1 k hk
end XM
end
section
def M_X0_clear : xM := (yX0_clear, cX0_clear, 1, none, { frames := 1, cells := 0, slots := 0, locals := 23 }, 0, 0)
def M_X0_find : xM := (yX0_find, cX0_find, 6, (some .int), { frames := 1, cells := 0, slots := 0, locals := 27 }, 0, 0)
def M_X0_add : xM := (yX0_add, cX0_add, 5, (some .int), { frames := 1, cells := 0, slots := 0, locals := 27 }, 0, 0)
def M_X0_slotOf : xM := (yX0_slotOf, cX0_slotOf, 8, (some .int), { frames := 0, cells := 0, slots := 0, locals := 0 }, 0, 0)
def M_X1_begin : xM := (yX1_begin, cX1_begin, 5, none, { frames := 2, cells := 0, slots := 0, locals := 51 }, 0, 0)
def M_X1_bringIn : xM := (yX1_bringIn, cX1_bringIn, 8, (some .boolean), { frames := 3, cells := 0, slots := 0, locals := 75 }, 0, 0)
def M_X1_addBlock : xM := (yX1_addBlock, cX1_addBlock, 5, (some .boolean), { frames := 2, cells := 0, slots := 0, locals := 51 }, 0, 0)
def M_X1_behind : xM := (yX1_behind, cX1_behind, 9, (some .long), { frames := 0, cells := 0, slots := 0, locals := 0 }, 0, 0)
def M_X2_forget : xM := (yX2_forget, cX2_forget, 1, none, { frames := 0, cells := 0, slots := 0, locals := 0 }, 0, 0)
def M_X2_forgetRows : xM := (yX2_forgetRows, cX2_forgetRows, 1, none, { frames := 1, cells := 0, slots := 0, locals := 23 }, 0, 0)
def M_X2_build : xM := (yX2_build, cX2_build, 6, none, { frames := 1, cells := 0, slots := 0, locals := 30 }, 0, 0)
def M_X2_buildBranch : xM := (yX2_buildBranch, cX2_buildBranch, 11, none, { frames := 0, cells := 0, slots := 0, locals := 0 }, 0, 0)
def M_X2_spread : xM := (yX2_spread, cX2_spread, 11, (some .int), { frames := 1, cells := 0, slots := 0, locals := 21 }, 0, 0)
def M_X2_countBackOrbits : xM := (yX2_countBackOrbits, cX2_countBackOrbits, 5, (some .int), { frames := 2, cells := 0, slots := 0, locals := 51 }, 0, 0)
def M_X2_markOfMove : xM := (yX2_markOfMove, cX2_markOfMove, 6, (some .int), { frames := 0, cells := 0, slots := 0, locals := 0 }, 0, 0)
def M_X2_roundsToRest : xM := (yX2_roundsToRest, cX2_roundsToRest, 8, (some .int), { frames := 2, cells := 0, slots := 0, locals := 53 }, 0, 0)
def M_X2_ringLength : xM := (yX2_ringLength, cX2_ringLength, 7, (some .int), { frames := 1, cells := 0, slots := 0, locals := 21 }, 0, 0)
def M_X2_commonDivisor : xM := (yX2_commonDivisor, cX2_commonDivisor, 11, (some .long), { frames := 1, cells := 0, slots := 0, locals := 23 }, 0, 0)
def M_X2_packed : xM := (yX2_packed, cX2_packed, 6, (some .long), { frames := 0, cells := 0, slots := 0, locals := 0 }, 0, 0)
def M_X3_restart : xM := (yX3_restart, cX3_restart, 2, none, { frames := 4, cells := 0, slots := 0, locals := 93 }, 0, 0)
def M_X3_isState : xM := (yX3_isState, cX3_isState, 2, (some .boolean), { frames := 0, cells := 0, slots := 0, locals := 0 }, 0, 0)
def M_X3_isLetter : xM := (yX3_isLetter, cX3_isLetter, 2, (some .boolean), { frames := 0, cells := 0, slots := 0, locals := 0 }, 0, 0)
def M_X3_isBack : xM := (yX3_isBack, cX3_isBack, 2, (some .boolean), { frames := 0, cells := 0, slots := 0, locals := 0 }, 0, 0)
def M_X3_canRead : xM := (yX3_canRead, cX3_canRead, 5, (some .boolean), { frames := 1, cells := 0, slots := 0, locals := 22 }, 0, 0)
def M_X3_read : xM := (yX3_read, cX3_read, 6, none, { frames := 4, cells := 0, slots := 0, locals := 93 }, 0, 0)
def M_X3_rewire : xM := (yX3_rewire, cX3_rewire, 5, none, { frames := 4, cells := 0, slots := 0, locals := 93 }, 0, 0)
def M_X3_refresh : xM := (yX3_refresh, cX3_refresh, 5, none, { frames := 3, cells := 0, slots := 0, locals := 69 }, 0, 0)
def M_X3_goals : xM := (yX3_goals, cX3_goals, 5, (some .int), { frames := 0, cells := 0, slots := 0, locals := 0 }, 0, 0)
def M_X3_writesUnlike : xM := (yX3_writesUnlike, cX3_writesUnlike, 4, (some .boolean), { frames := 0, cells := 0, slots := 0, locals := 0 }, 0, 0)
def M_X3_listMarks : xM := (yX3_listMarks, cX3_listMarks, 3, none, { frames := 2, cells := 0, slots := 0, locals := 47 }, 0, 0)
def M_X3_wireMarks : xM := (yX3_wireMarks, cX3_wireMarks, 7, none, { frames := 1, cells := 0, slots := 0, locals := 21 }, 0, 0)
def M_X3_rowLength : xM := (yX3_rowLength, cX3_rowLength, 3, (some .int), { frames := 1, cells := 0, slots := 0, locals := 23 }, 0, 0)
def M_X3_hasLetters : xM := (yX3_hasLetters, cX3_hasLetters, 4, (some .boolean), { frames := 0, cells := 0, slots := 0, locals := 0 }, 0, 0)
def M_X3_rowIndex : xM := (yX3_rowIndex, cX3_rowIndex, 5, (some .int), { frames := 0, cells := 0, slots := 0, locals := 0 }, 0, 0)
def M_X3_power : xM := (yX3_power, cX3_power, 5, (some .int), { frames := 0, cells := 0, slots := 0, locals := 0 }, 0, 0)
def M_X4_reset : xM := (yX4_reset, cX4_reset, 1, none, { frames := 2, cells := 0, slots := 0, locals := 43 }, 0, 0)
def M_X4_indexOf : xM := (yX4_indexOf, cX4_indexOf, 2, (some .int), { frames := 2, cells := 0, slots := 0, locals := 52 }, 0, 0)
def M_X4_load : xM := (yX4_load, cX4_load, 3, none, { frames := 0, cells := 0, slots := 0, locals := 0 }, 0, 0)
def M_X4_enter : xM := (yX4_enter, cX4_enter, 2, (some .int), { frames := 2, cells := 0, slots := 0, locals := 51 }, 0, 0)
def M_X4_take : xM := (yX4_take, cX4_take, 4, (some .int), { frames := 3, cells := 0, slots := 0, locals := 76 }, 0, 0)
def M_X4_followParts : xM := (yX4_followParts, cX4_followParts, 6, (some .boolean), { frames := 2, cells := 0, slots := 0, locals := 51 }, 0, 0)
def M_X4_classify : xM := (yX4_classify, cX4_classify, 3, none, { frames := 3, cells := 0, slots := 0, locals := 75 }, 0, 0)
def M_X4_refine : xM := (yX4_refine, cX4_refine, 5, none, { frames := 2, cells := 0, slots := 0, locals := 51 }, 0, 0)
def M_X4_keepRound : xM := (yX4_keepRound, cX4_keepRound, 1, none, { frames := 1, cells := 0, slots := 0, locals := 26 }, 0, 0)
def M_X4_areAlike : xM := (yX4_areAlike, cX4_areAlike, 3, (some .boolean), { frames := 0, cells := 0, slots := 0, locals := 0 }, 0, 0)
def M_X4_arePartedBy : xM := (yX4_arePartedBy, cX4_arePartedBy, 4, (some .boolean), { frames := 0, cells := 0, slots := 0, locals := 0 }, 0, 0)
def M_X4_partingRow : xM := (yX4_partingRow, cX4_partingRow, 9, (some .int), { frames := 2, cells := 0, slots := 0, locals := 47 }, 0, 0)
def M_X4_firstPartingLetter : xM := (yX4_firstPartingLetter, cX4_firstPartingLetter, 5, (some .int), { frames := 1, cells := 0, slots := 0, locals := 23 }, 0, 0)
def M_X4_firstUnlikeLetter : xM := (yX4_firstUnlikeLetter, cX4_firstUnlikeLetter, 3, (some .int), { frames := 0, cells := 0, slots := 0, locals := 0 }, 0, 0)
def M_X5_lay : xM := (yX5_lay, cX5_lay, 3, none, { frames := 1, cells := 0, slots := 0, locals := 23 }, 0, 0)
def M_X5_hasNumber : xM := (yX5_hasNumber, cX5_hasNumber, 2, (some .boolean), { frames := 0, cells := 0, slots := 0, locals := 0 }, 0, 0)
def M_X5_hasPair : xM := (yX5_hasPair, cX5_hasPair, 3, (some .boolean), { frames := 0, cells := 0, slots := 0, locals := 0 }, 0, 0)
def M_X5_write : xM := (yX5_write, cX5_write, 3, none, { frames := 0, cells := 0, slots := 0, locals := 0 }, 0, 0)
def M_X6_forget : xM := (yX6_forget, cX6_forget, 1, none, { frames := 0, cells := 0, slots := 0, locals := 0 }, 0, 0)
def M_X6_gatherWithin : xM := (yX6_gatherWithin, cX6_gatherWithin, 3, (some .int), { frames := 5, cells := 0, slots := 0, locals := 122 }, 0, 0)
def M_X6_enterWithin : xM := (yX6_enterWithin, cX6_enterWithin, 7, (some .boolean), { frames := 4, cells := 0, slots := 0, locals := 96 }, 0, 0)
def M_X6_beginWithEmpty : xM := (yX6_beginWithEmpty, cX6_beginWithEmpty, 1, none, { frames := 3, cells := 0, slots := 0, locals := 72 }, 0, 0)
def M_X6_extend : xM := (yX6_extend, cX6_extend, 5, (some .boolean), { frames := 3, cells := 0, slots := 0, locals := 72 }, 0, 0)
def M_X6_isLaw : xM := (yX6_isLaw, cX6_isLaw, 2, (some .boolean), { frames := 1, cells := 0, slots := 0, locals := 22 }, 0, 0)
def M_X6_countLaws : xM := (yX6_countLaws, cX6_countLaws, 3, (some .int), { frames := 2, cells := 0, slots := 0, locals := 43 }, 0, 0)
def M_X6_findLaw : xM := (yX6_findLaw, cX6_findLaw, 4, (some .int), { frames := 2, cells := 0, slots := 0, locals := 43 }, 0, 0)
def M_X6_gatherFallen : xM := (yX6_gatherFallen, cX6_gatherFallen, 4, (some .int), { frames := 5, cells := 0, slots := 0, locals := 127 }, 0, 0)
def M_X6_lookAtParts : xM := (yX6_lookAtParts, cX6_lookAtParts, 9, (some .boolean), { frames := 4, cells := 0, slots := 0, locals := 99 }, 0, 0)
def M_X6_addUnlike : xM := (yX6_addUnlike, cX6_addUnlike, 3, (some .boolean), { frames := 4, cells := 0, slots := 0, locals := 97 }, 0, 0)
def M_X7_empty : xM := (yX7_empty, cX7_empty, 1, none, { frames := 0, cells := 0, slots := 0, locals := 0 }, 0, 0)
def M_X7_copy : xM := (yX7_copy, cX7_copy, 2, none, { frames := 0, cells := 0, slots := 0, locals := 0 }, 0, 0)
def M_X7_mark : xM := (yX7_mark, cX7_mark, 2, (some .int), { frames := 0, cells := 0, slots := 0, locals := 0 }, 0, 0)
def M_X7_push : xM := (yX7_push, cX7_push, 2, (some .boolean), { frames := 0, cells := 0, slots := 0, locals := 0 }, 0, 0)
def M_X7_descend : xM := (yX7_descend, cX7_descend, 9, (some .int), { frames := 1, cells := 0, slots := 0, locals := 21 }, 0, 0)
def M_X8_sheet : xM := (yX8_sheet, cX8_sheet, 4, (some .int), { frames := 2, cells := 0, slots := 0, locals := 45 }, 0, 0)
def M_X8_cell : xM := (yX8_cell, cX8_cell, 4, (some .int), { frames := 1, cells := 0, slots := 0, locals := 22 }, 0, 0)
def M_X8_told : xM := (yX8_told, cX8_told, 3, (some .int), { frames := 1, cells := 0, slots := 0, locals := 21 }, 0, 0)
def M_X8_lose : xM := (yX8_lose, cX8_lose, 2, (some .int), { frames := 1, cells := 0, slots := 0, locals := 20 }, 0, 0)
def M_X8_letters : xM := (yX8_letters, cX8_letters, 3, (some .int), { frames := 5, cells := 0, slots := 0, locals := 114 }, 0, 0)
def M_X8_state : xM := (yX8_state, cX8_state, 3, (some .int), { frames := 5, cells := 0, slots := 0, locals := 118 }, 0, 0)
def M_X8_change : xM := (yX8_change, cX8_change, 6, (some .int), { frames := 5, cells := 0, slots := 0, locals := 117 }, 0, 0)
def M_X8_of : xM := (yX8_of, cX8_of, 5, (some .int), { frames := 1, cells := 0, slots := 0, locals := 21 }, 0, 0)
def M_X8_many : xM := (yX8_many, cX8_many, 2, (some .int), { frames := 0, cells := 0, slots := 0, locals := 0 }, 0, 0)
def M_X8_put : xM := (yX8_put, cX8_put, 8, (some .int), { frames := 3, cells := 0, slots := 0, locals := 70 }, 0, 0)
def M_X8_wipe : xM := (yX8_wipe, cX8_wipe, 3, (some .int), { frames := 1, cells := 0, slots := 0, locals := 20 }, 0, 0)
def M_X8_size : xM := (yX8_size, cX8_size, 2, (some .int), { frames := 1, cells := 0, slots := 0, locals := 20 }, 0, 0)
def M_X8_token : xM := (yX8_token, cX8_token, 3, (some .int), { frames := 1, cells := 0, slots := 0, locals := 21 }, 0, 0)
def M_X8_times : xM := (yX8_times, cX8_times, 4, (some .int), { frames := 3, cells := 0, slots := 0, locals := 70 }, 0, 0)
def M_X8_turn : xM := (yX8_turn, cX8_turn, 4, (some .int), { frames := 2, cells := 0, slots := 0, locals := 43 }, 0, 0)
def M_X8_act : xM := (yX8_act, cX8_act, 4, (some .int), { frames := 3, cells := 0, slots := 0, locals := 74 }, 0, 0)
def M_X8_part : xM := (yX8_part, cX8_part, 5, (some .int), { frames := 3, cells := 0, slots := 0, locals := 74 }, 0, 0)
def M_X8_same : xM := (yX8_same, cX8_same, 4, (some .int), { frames := 5, cells := 0, slots := 0, locals := 121 }, 0, 0)
def M_X8_apart : xM := (yX8_apart, cX8_apart, 4, (some .int), { frames := 5, cells := 0, slots := 0, locals := 121 }, 0, 0)
def M_X8_heap : xM := (yX8_heap, cX8_heap, 3, (some .int), { frames := 5, cells := 0, slots := 0, locals := 121 }, 0, 0)
def M_X8_least : xM := (yX8_least, cX8_least, 3, (some .int), { frames := 5, cells := 0, slots := 0, locals := 121 }, 0, 0)
def M_X8_order : xM := (yX8_order, cX8_order, 3, (some .int), { frames := 3, cells := 0, slots := 0, locals := 80 }, 0, 0)
def M_X8_orbits : xM := (yX8_orbits, cX8_orbits, 2, (some .int), { frames := 3, cells := 0, slots := 0, locals := 75 }, 0, 0)
def M_X8_orbit : xM := (yX8_orbit, cX8_orbit, 3, (some .int), { frames := 3, cells := 0, slots := 0, locals := 77 }, 0, 0)
def M_X8_far : xM := (yX8_far, cX8_far, 5, (some .int), { frames := 3, cells := 0, slots := 0, locals := 77 }, 0, 0)
def M_X8_way : xM := (yX8_way, cX8_way, 6, (some .int), { frames := 4, cells := 0, slots := 0, locals := 101 }, 0, 0)
def M_X8_reach : xM := (yX8_reach, cX8_reach, 4, (some .int), { frames := 3, cells := 0, slots := 0, locals := 77 }, 0, 0)
def M_X8_group : xM := (yX8_group, cX8_group, 4, (some .int), { frames := 4, cells := 0, slots := 0, locals := 102 }, 0, 0)
def M_X8_growth : xM := (yX8_growth, cX8_growth, 3, (some .int), { frames := 6, cells := 0, slots := 0, locals := 144 }, 0, 0)
def M_X8_laws : xM := (yX8_laws, cX8_laws, 3, (some .int), { frames := 6, cells := 0, slots := 0, locals := 144 }, 0, 0)
def M_X8_law : xM := (yX8_law, cX8_law, 6, (some .int), { frames := 6, cells := 0, slots := 0, locals := 144 }, 0, 0)
def M_X8_fall : xM := (yX8_fall, cX8_fall, 3, (some .int), { frames := 6, cells := 0, slots := 0, locals := 150 }, 0, 0)
def M_X8_fallen : xM := (yX8_fallen, cX8_fallen, 5, (some .int), { frames := 6, cells := 0, slots := 0, locals := 150 }, 0, 0)
def M_X8_isSheet : xM := (yX8_isSheet, cX8_isSheet, 1, (some .boolean), { frames := 0, cells := 0, slots := 0, locals := 0 }, 0, 0)
def M_X8_isSpot : xM := (yX8_isSpot, cX8_isSpot, 1, (some .boolean), { frames := 0, cells := 0, slots := 0, locals := 0 }, 0, 0)
def M_X8_isGoal : xM := (yX8_isGoal, cX8_isGoal, 1, (some .boolean), { frames := 0, cells := 0, slots := 0, locals := 0 }, 0, 0)
def M_X8_markOf : xM := (yX8_markOf, cX8_markOf, 1, (some .int), { frames := 0, cells := 0, slots := 0, locals := 0 }, 0, 0)
def M_X8_tokenOf : xM := (yX8_tokenOf, cX8_tokenOf, 2, (some .int), { frames := 0, cells := 0, slots := 0, locals := 0 }, 0, 0)
def M_X8_forgetAnswers : xM := (yX8_forgetAnswers, cX8_forgetAnswers, 1, none, { frames := 1, cells := 0, slots := 0, locals := 20 }, 0, 0)
def M_X8_hasLostWayBack : xM := (yX8_hasLostWayBack, cX8_hasLostWayBack, 4, (some .boolean), { frames := 1, cells := 0, slots := 0, locals := 21 }, 0, 0)
def M_X8_hasBackStates : xM := (yX8_hasBackStates, cX8_hasBackStates, 3, (some .boolean), { frames := 1, cells := 0, slots := 0, locals := 21 }, 0, 0)
def M_X8_refusalOfGiven : xM := (yX8_refusalOfGiven, cX8_refusalOfGiven, 4, (some .int), { frames := 1, cells := 0, slots := 0, locals := 21 }, 0, 0)
def M_X8_bring : xM := (yX8_bring, cX8_bring, 3, (some .int), { frames := 1, cells := 0, slots := 0, locals := 21 }, 0, 0)
def M_X8_join : xM := (yX8_join, cX8_join, 8, (some .int), { frames := 2, cells := 0, slots := 0, locals := 43 }, 0, 0)
def M_X8_walkDown : xM := (yX8_walkDown, cX8_walkDown, 6, (some .int), { frames := 2, cells := 0, slots := 0, locals := 49 }, 0, 0)
def M_X8_gather : xM := (yX8_gather, cX8_gather, 3, (some .int), { frames := 4, cells := 0, slots := 0, locals := 99 }, 0, 0)
def M_X8_levelOf : xM := (yX8_levelOf, cX8_levelOf, 3, (some .int), { frames := 2, cells := 0, slots := 0, locals := 45 }, 0, 0)
def M_X8_walkFrom : xM := (yX8_walkFrom, cX8_walkFrom, 3, (some .int), { frames := 2, cells := 0, slots := 0, locals := 55 }, 0, 0)
def M_X9_in : xM := (yX9_in, cX9_in, 6, (some .boolean), { frames := 0, cells := 0, slots := 0, locals := 0 }, 0, 0)
def M_X9_isSheet : xM := (yX9_isSheet, cX9_isSheet, 1, (some .boolean), { frames := 1, cells := 0, slots := 0, locals := 25 }, 0, 0)
def M_X9_isSpot : xM := (yX9_isSpot, cX9_isSpot, 1, (some .boolean), { frames := 1, cells := 0, slots := 0, locals := 25 }, 0, 0)
def M_X9_sheet : xM := (yX9_sheet, cX9_sheet, 5, (some .int), { frames := 2, cells := 0, slots := 0, locals := 45 }, 0, 0)
def M_X9_cell : xM := (yX9_cell, cX9_cell, 4, (some .int), { frames := 2, cells := 0, slots := 0, locals := 45 }, 0, 0)
def M_X9_told : xM := (yX9_told, cX9_told, 3, (some .int), { frames := 2, cells := 0, slots := 0, locals := 45 }, 0, 0)
def M_X9_lose : xM := (yX9_lose, cX9_lose, 2, (some .int), { frames := 2, cells := 0, slots := 0, locals := 45 }, 0, 0)
def M_X9_letters : xM := (yX9_letters, cX9_letters, 3, (some .int), { frames := 1, cells := 0, slots := 0, locals := 25 }, 0, 0)
def M_X9_state : xM := (yX9_state, cX9_state, 8, (some .int), { frames := 2, cells := 0, slots := 0, locals := 45 }, 0, 0)
def M_X9_isFair : xM := (yX9_isFair, cX9_isFair, 5, (some .boolean), { frames := 0, cells := 0, slots := 0, locals := 0 }, 0, 0)
def M_X9_isBack : xM := (yX9_isBack, cX9_isBack, 5, (some .boolean), { frames := 1, cells := 0, slots := 0, locals := 24 }, 0, 0)
def M_X9_change : xM := (yX9_change, cX9_change, 9, (some .int), { frames := 2, cells := 0, slots := 0, locals := 48 }, 0, 0)
def M_X9_of : xM := (yX9_of, cX9_of, 4, (some .int), { frames := 2, cells := 0, slots := 0, locals := 48 }, 0, 0)
def M_X9_isWhole : xM := (yX9_isWhole, cX9_isWhole, 4, (some .boolean), { frames := 0, cells := 0, slots := 0, locals := 0 }, 0, 0)
def M_X9_findTokens : xM := (yX9_findTokens, cX9_findTokens, 2, none, { frames := 2, cells := 0, slots := 0, locals := 48 }, 0, 0)
def M_X9_many : xM := (yX9_many, cX9_many, 2, (some .int), { frames := 3, cells := 0, slots := 0, locals := 69 }, 0, 0)
def M_X9_add : xM := (yX9_add, cX9_add, 4, none, { frames := 0, cells := 0, slots := 0, locals := 0 }, 0, 0)
def M_X9_copy : xM := (yX9_copy, cX9_copy, 4, none, { frames := 0, cells := 0, slots := 0, locals := 0 }, 0, 0)
def M_X9_put : xM := (yX9_put, cX9_put, 9, (some .int), { frames := 2, cells := 0, slots := 0, locals := 48 }, 0, 0)
def M_X9_wipe : xM := (yX9_wipe, cX9_wipe, 3, (some .int), { frames := 2, cells := 0, slots := 0, locals := 45 }, 0, 0)
def M_X9_size : xM := (yX9_size, cX9_size, 2, (some .int), { frames := 2, cells := 0, slots := 0, locals := 45 }, 0, 0)
def M_X9_token : xM := (yX9_token, cX9_token, 3, (some .int), { frames := 2, cells := 0, slots := 0, locals := 45 }, 0, 0)
def M_X9_times : xM := (yX9_times, cX9_times, 5, (some .int), { frames := 2, cells := 0, slots := 0, locals := 45 }, 0, 0)
def M_X9_turn : xM := (yX9_turn, cX9_turn, 5, (some .int), { frames := 2, cells := 0, slots := 0, locals := 48 }, 0, 0)
def M_X9_step : xM := (yX9_step, cX9_step, 5, none, { frames := 0, cells := 0, slots := 0, locals := 0 }, 0, 0)
def M_X9_partAt : xM := (yX9_partAt, cX9_partAt, 6, (some .int), { frames := 1, cells := 0, slots := 0, locals := 24 }, 0, 0)
def M_X9_takeRow : xM := (yX9_takeRow, cX9_takeRow, 6, (some .boolean), { frames := 0, cells := 0, slots := 0, locals := 0 }, 0, 0)
def M_X9_rowNumber : xM := (yX9_rowNumber, cX9_rowNumber, 3, (some .int), { frames := 0, cells := 0, slots := 0, locals := 0 }, 0, 0)
def M_X9_rewrite : xM := (yX9_rewrite, cX9_rewrite, 4, none, { frames := 1, cells := 0, slots := 0, locals := 24 }, 0, 0)
def M_X9_act : xM := (yX9_act, cX9_act, 4, (some .int), { frames := 2, cells := 0, slots := 0, locals := 47 }, 0, 0)
def M_X9_partAtRow : xM := (yX9_partAtRow, cX9_partAtRow, 5, none, { frames := 2, cells := 0, slots := 0, locals := 49 }, 0, 0)
def M_X9_part : xM := (yX9_part, cX9_part, 4, (some .int), { frames := 3, cells := 0, slots := 0, locals := 73 }, 0, 0)
def M_X9_findInHeap : xM := (yX9_findInHeap, cX9_findInHeap, 6, (some .int), { frames := 0, cells := 0, slots := 0, locals := 0 }, 0, 0)
def M_X9_toHeap : xM := (yX9_toHeap, cX9_toHeap, 4, (some .int), { frames := 1, cells := 0, slots := 0, locals := 25 }, 0, 0)
def M_X9_fromHeap : xM := (yX9_fromHeap, cX9_fromHeap, 4, none, { frames := 0, cells := 0, slots := 0, locals := 0 }, 0, 0)
def M_X9_grow : xM := (yX9_grow, cX9_grow, 2, (some .boolean), { frames := 2, cells := 0, slots := 0, locals := 49 }, 0, 0)
def M_X9_beginHeap : xM := (yX9_beginHeap, cX9_beginHeap, 1, none, { frames := 0, cells := 0, slots := 0, locals := 0 }, 0, 0)
def M_X9_isSameNow : xM := (yX9_isSameNow, cX9_isSameNow, 5, (some .boolean), { frames := 0, cells := 0, slots := 0, locals := 0 }, 0, 0)
def M_X9_partOnce : xM := (yX9_partOnce, cX9_partOnce, 4, (some .int), { frames := 1, cells := 0, slots := 0, locals := 24 }, 0, 0)
def M_X9_partAll : xM := (yX9_partAll, cX9_partAll, 6, (some .int), { frames := 2, cells := 0, slots := 0, locals := 47 }, 0, 0)
def M_X9_takeTwo : xM := (yX9_takeTwo, cX9_takeTwo, 4, (some .int), { frames := 3, cells := 0, slots := 0, locals := 72 }, 0, 0)
def M_X9_same : xM := (yX9_same, cX9_same, 4, (some .int), { frames := 4, cells := 0, slots := 0, locals := 95 }, 0, 0)
def M_X9_apart : xM := (yX9_apart, cX9_apart, 10, (some .int), { frames := 4, cells := 0, slots := 0, locals := 95 }, 0, 0)
def M_X9_isParted : xM := (yX9_isParted, cX9_isParted, 6, (some .boolean), { frames := 0, cells := 0, slots := 0, locals := 0 }, 0, 0)
def M_X9_heap : xM := (yX9_heap, cX9_heap, 3, (some .int), { frames := 4, cells := 0, slots := 0, locals := 95 }, 0, 0)
def M_X9_least : xM := (yX9_least, cX9_least, 3, (some .int), { frames := 4, cells := 0, slots := 0, locals := 95 }, 0, 0)
def M_X9_rowsOf : xM := (yX9_rowsOf, cX9_rowsOf, 5, (some .int), { frames := 0, cells := 0, slots := 0, locals := 0 }, 0, 0)
def M_X9_rowAt : xM := (yX9_rowAt, cX9_rowAt, 5, none, { frames := 0, cells := 0, slots := 0, locals := 0 }, 0, 0)
def M_X9_placeNow : xM := (yX9_placeNow, cX9_placeNow, 3, (some .int), { frames := 0, cells := 0, slots := 0, locals := 0 }, 0, 0)
def M_X9_findLevel : xM := (yX9_findLevel, cX9_findLevel, 4, none, { frames := 3, cells := 0, slots := 0, locals := 69 }, 0, 0)
def M_X9_isTokenBack : xM := (yX9_isTokenBack, cX9_isTokenBack, 2, (some .boolean), { frames := 2, cells := 0, slots := 0, locals := 48 }, 0, 0)
def M_X9_common : xM := (yX9_common, cX9_common, 10, (some .long), { frames := 0, cells := 0, slots := 0, locals := 0 }, 0, 0)
def M_X9_order : xM := (yX9_order, cX9_order, 10, (some .int), { frames := 3, cells := 0, slots := 0, locals := 69 }, 0, 0)
def M_X9_orbits : xM := (yX9_orbits, cX9_orbits, 6, (some .int), { frames := 4, cells := 0, slots := 0, locals := 92 }, 0, 0)
def M_X9_takeLevel : xM := (yX9_takeLevel, cX9_takeLevel, 2, (some .int), { frames := 4, cells := 0, slots := 0, locals := 92 }, 0, 0)
def M_X9_findFar : xM := (yX9_findFar, cX9_findFar, 6, none, { frames := 0, cells := 0, slots := 0, locals := 0 }, 0, 0)
def M_X9_orbit : xM := (yX9_orbit, cX9_orbit, 5, (some .int), { frames := 5, cells := 0, slots := 0, locals := 113 }, 0, 0)
def M_X9_takeRows : xM := (yX9_takeRows, cX9_takeRows, 4, (some .int), { frames := 5, cells := 0, slots := 0, locals := 113 }, 0, 0)
def M_X9_far : xM := (yX9_far, cX9_far, 4, (some .int), { frames := 6, cells := 0, slots := 0, locals := 136 }, 0, 0)
def M_X9_findFarTo : xM := (yX9_findFarTo, cX9_findFarTo, 5, none, { frames := 0, cells := 0, slots := 0, locals := 0 }, 0, 0)
def M_X9_way : xM := (yX9_way, cX9_way, 9, (some .int), { frames := 7, cells := 0, slots := 0, locals := 159 }, 0, 0)
def M_X9_reach : xM := (yX9_reach, cX9_reach, 5, (some .int), { frames := 5, cells := 0, slots := 0, locals := 113 }, 0, 0)
def M_X9_toGroup : xM := (yX9_toGroup, cX9_toGroup, 6, (some .boolean), { frames := 0, cells := 0, slots := 0, locals := 0 }, 0, 0)
def M_X9_made : xM := (yX9_made, cX9_made, 8, (some .long), { frames := 0, cells := 0, slots := 0, locals := 0 }, 0, 0)
def M_X9_group : xM := (yX9_group, cX9_group, 7, (some .int), { frames := 4, cells := 0, slots := 0, locals := 92 }, 0, 0)
def M_X9_takeShort : xM := (yX9_takeShort, cX9_takeShort, 8, (some .int), { frames := 3, cells := 0, slots := 0, locals := 69 }, 0, 0)
def M_X9_growth : xM := (yX9_growth, cX9_growth, 4, (some .int), { frames := 4, cells := 0, slots := 0, locals := 96 }, 0, 0)
def M_X9_findLaw : xM := (yX9_findLaw, cX9_findLaw, 6, (some .int), { frames := 3, cells := 0, slots := 0, locals := 72 }, 0, 0)
def M_X9_laws : xM := (yX9_laws, cX9_laws, 3, (some .int), { frames := 4, cells := 0, slots := 0, locals := 97 }, 0, 0)
def M_X9_law : xM := (yX9_law, cX9_law, 6, (some .int), { frames := 4, cells := 0, slots := 0, locals := 97 }, 0, 0)
def M_X9_falls : xM := (yX9_falls, cX9_falls, 5, (some .boolean), { frames := 3, cells := 0, slots := 0, locals := 72 }, 0, 0)
def M_X9_beginFall : xM := (yX9_beginFall, cX9_beginFall, 3, (some .boolean), { frames := 3, cells := 0, slots := 0, locals := 72 }, 0, 0)
def M_X9_fallsAll : xM := (yX9_fallsAll, cX9_fallsAll, 6, (some .boolean), { frames := 4, cells := 0, slots := 0, locals := 96 }, 0, 0)
def M_X9_fall : xM := (yX9_fall, cX9_fall, 2, (some .int), { frames := 5, cells := 0, slots := 0, locals := 121 }, 0, 0)
def M_X9_fallen : xM := (yX9_fallen, cX9_fallen, 5, (some .int), { frames := 6, cells := 0, slots := 0, locals := 142 }, 0, 0)
def M_J9_max_7cf53 : xM := (yJ9_max_7cf53, cJ9_max_7cf53, 2, (some .int), { frames := 0, cells := 0, slots := 0, locals := 0 }, 0, 0)
def M_J9_max_f86c9 : xM := (yJ9_max_f86c9, cJ9_max_f86c9, 4, (some .long), { frames := 0, cells := 0, slots := 0, locals := 0 }, 0, 0)
def M_J9_min_7cf53 : xM := (yJ9_min_7cf53, cJ9_min_7cf53, 2, (some .int), { frames := 0, cells := 0, slots := 0, locals := 0 }, 0, 0)
def M_J7_fill_53178 : xM := (yJ7_fill_53178, cJ7_fill_53178, 4, none, { frames := 0, cells := 0, slots := 0, locals := 0 }, 0, 0)
def xcf (F' : xM) (n : Nat) : Prop := Cond.code F'.1 F'.2.1 F'.2.2.1 F'.2.2.2.1 ∈ xw ∧ Cond.initialized F'.1.cls ∈ xw ∧ (F'.1.cls ≠ "java/lang/invoke/MethodHandle" ∧ F'.1.cls ≠ "java/lang/invoke/VarHandle" ∧ (parseMethodDescriptor F'.1.desc).map (fun d => d.parameters.length) = some n) ∧ F'.2.2.2.2.1.cells = 0 ∧ F'.2.2.2.2.1.slots = 0
def xcfV (F' : xM) (n : Nat) : Prop := xcf F' n ∧ Cond.instanceMethod F'.1 ∈ xw ∧ Cond.selects F'.1.cls F'.1 F'.1 ∈ xw
def xcfS (F' : xM) (n : Nat) : Prop := xcf F' n ∧ Cond.static F'.1 ∈ xw
abbrev xrm (F F' : xM) : Prop := (F'.2.2.2.2.1.frames + 1 ≤ F.2.2.2.2.1.frames ∧ 8 + (F'.2.2.1 + 11) + F'.2.2.2.2.1.locals ≤ F.2.2.2.2.1.locals) ∧ F.2.2.2.2.2.1 ≤ F.2.2.2.2.1.cells ∧ F.2.2.2.2.2.2 ≤ F.2.2.2.2.1.slots
theorem xcb_of {F F' : xM} {n : Nat} (h : xcf F' n) (hR : xrm F F') : xcb F F' n := ⟨h.1, h.2.1, h.2.2.1, hR.1, h.2.2.2.1, h.2.2.2.2, hR.2.1, hR.2.2⟩
theorem xcv_of {F F' : xM} {ix n : Nat} (h : xcfV F' n) (hl : Cond.methodLink F.1.cls ix F'.1 ∈ xw) (hR : xrm F F') : xcv F F' ix n := ⟨xcb_of h.1 hR, hl, h.2.1, h.2.2⟩
theorem xcs_of {F F' : xM} {ix n : Nat} (h : xcfS F' n) (hl : Cond.methodLink F.1.cls ix F'.1 ∈ xw) (hR : xrm F F') : xcs F F' ix n := ⟨xcb_of h.1 hR, hl, h.2⟩
theorem wi_8 : Cond.initialized RX8 ∈ xw := xt 1 (by decide +kernel) rfl
theorem wi_7 : Cond.initialized RX7 ∈ xw := xt 2 (by decide +kernel) rfl
theorem wi_3 : Cond.initialized RX3 ∈ xw := xt 3 (by decide +kernel) rfl
theorem wi_2 : Cond.initialized RX2 ∈ xw := xt 4 (by decide +kernel) rfl
theorem wi_1 : Cond.initialized RX1 ∈ xw := xt 5 (by decide +kernel) rfl
theorem wi_0 : Cond.initialized RX0 ∈ xw := xt 6 (by decide +kernel) rfl
theorem wi_4 : Cond.initialized RX4 ∈ xw := xt 7 (by decide +kernel) rfl
theorem wi_6 : Cond.initialized RX6 ∈ xw := xt 8 (by decide +kernel) rfl
theorem wi_5 : Cond.initialized RX5 ∈ xw := xt 9 (by decide +kernel) rfl
theorem wi_9 : Cond.initialized RX9 ∈ xw := xt 10 (by decide +kernel) rfl
theorem wi_J7 : Cond.initialized RJ7 ∈ xw := xt 11 (by decide +kernel) rfl
theorem wi_J9 : Cond.initialized RJ9 ∈ xw := xt 13 (by decide +kernel) rfl
theorem cf_X0_clear : xcfV M_X0_clear 0 := ⟨⟨xt 565 (by decide +kernel) rfl, wi_0, ⟨by decide, by decide, by decide +kernel⟩, rfl, rfl⟩, xt 563 (by decide +kernel) rfl, xt 564 (by decide +kernel) rfl⟩
theorem cf_X0_find : xcfV M_X0_find 2 := ⟨⟨xt 612 (by decide +kernel) rfl, wi_0, ⟨by decide, by decide, by decide +kernel⟩, rfl, rfl⟩, xt 610 (by decide +kernel) rfl, xt 611 (by decide +kernel) rfl⟩
theorem cf_X0_add : xcfV M_X0_add 2 := ⟨⟨xt 575 (by decide +kernel) rfl, wi_0, ⟨by decide, by decide, by decide +kernel⟩, rfl, rfl⟩, xt 573 (by decide +kernel) rfl, xt 574 (by decide +kernel) rfl⟩
theorem cf_X0_slotOf : xcfV M_X0_slotOf 2 := ⟨⟨xt 579 (by decide +kernel) rfl, wi_0, ⟨by decide, by decide, by decide +kernel⟩, rfl, rfl⟩, xt 578 (by decide +kernel) rfl, xp (by decide +kernel) rfl⟩
theorem cf_X1_begin : xcfV M_X1_begin 1 := ⟨⟨xt 740 (by decide +kernel) rfl, wi_1, ⟨by decide, by decide, by decide +kernel⟩, rfl, rfl⟩, xt 738 (by decide +kernel) rfl, xt 739 (by decide +kernel) rfl⟩
theorem cf_X1_bringIn : xcfV M_X1_bringIn 1 := ⟨⟨xt 750 (by decide +kernel) rfl, wi_1, ⟨by decide, by decide, by decide +kernel⟩, rfl, rfl⟩, xt 748 (by decide +kernel) rfl, xt 749 (by decide +kernel) rfl⟩
theorem cf_X1_addBlock : xcfV M_X1_addBlock 2 := ⟨⟨xt 761 (by decide +kernel) rfl, wi_1, ⟨by decide, by decide, by decide +kernel⟩, rfl, rfl⟩, xt 760 (by decide +kernel) rfl, xp (by decide +kernel) rfl⟩
theorem cf_X1_behind : xcfV M_X1_behind 2 := ⟨⟨xt 756 (by decide +kernel) rfl, wi_1, ⟨by decide, by decide, by decide +kernel⟩, rfl, rfl⟩, xt 755 (by decide +kernel) rfl, xp (by decide +kernel) rfl⟩
theorem cf_X2_forget : xcfV M_X2_forget 0 := ⟨⟨xt 404 (by decide +kernel) rfl, wi_2, ⟨by decide, by decide, by decide +kernel⟩, rfl, rfl⟩, xt 402 (by decide +kernel) rfl, xt 403 (by decide +kernel) rfl⟩
theorem cf_X2_forgetRows : xcfV M_X2_forgetRows 0 := ⟨⟨xt 668 (by decide +kernel) rfl, wi_2, ⟨by decide, by decide, by decide +kernel⟩, rfl, rfl⟩, xt 666 (by decide +kernel) rfl, xt 667 (by decide +kernel) rfl⟩
theorem cf_X2_build : xcfV M_X2_build 2 := ⟨⟨xt 656 (by decide +kernel) rfl, wi_2, ⟨by decide, by decide, by decide +kernel⟩, rfl, rfl⟩, xt 654 (by decide +kernel) rfl, xt 655 (by decide +kernel) rfl⟩
theorem cf_X2_buildBranch : xcfV M_X2_buildBranch 4 := ⟨⟨xt 660 (by decide +kernel) rfl, wi_2, ⟨by decide, by decide, by decide +kernel⟩, rfl, rfl⟩, xt 659 (by decide +kernel) rfl, xp (by decide +kernel) rfl⟩
theorem cf_X2_spread : xcfV M_X2_spread 4 := ⟨⟨xt 696 (by decide +kernel) rfl, wi_2, ⟨by decide, by decide, by decide +kernel⟩, rfl, rfl⟩, xt 694 (by decide +kernel) rfl, xt 695 (by decide +kernel) rfl⟩
theorem cf_X2_countBackOrbits : xcfV M_X2_countBackOrbits 2 := ⟨⟨xt 692 (by decide +kernel) rfl, wi_2, ⟨by decide, by decide, by decide +kernel⟩, rfl, rfl⟩, xt 690 (by decide +kernel) rfl, xt 691 (by decide +kernel) rfl⟩
theorem cf_X2_markOfMove : xcfV M_X2_markOfMove 3 := ⟨⟨xt 728 (by decide +kernel) rfl, wi_2, ⟨by decide, by decide, by decide +kernel⟩, rfl, rfl⟩, xt 726 (by decide +kernel) rfl, xt 727 (by decide +kernel) rfl⟩
theorem cf_X2_roundsToRest : xcfV M_X2_roundsToRest 2 := ⟨⟨xt 664 (by decide +kernel) rfl, wi_2, ⟨by decide, by decide, by decide +kernel⟩, rfl, rfl⟩, xt 662 (by decide +kernel) rfl, xt 663 (by decide +kernel) rfl⟩
theorem cf_X2_ringLength : xcfV M_X2_ringLength 3 := ⟨⟨xt 673 (by decide +kernel) rfl, wi_2, ⟨by decide, by decide, by decide +kernel⟩, rfl, rfl⟩, xt 672 (by decide +kernel) rfl, xp (by decide +kernel) rfl⟩
theorem cf_X2_commonDivisor : xcfS M_X2_commonDivisor 2 := ⟨⟨xt 680 (by decide +kernel) rfl, wi_2, ⟨by decide, by decide, by decide +kernel⟩, rfl, rfl⟩, xt 679 (by decide +kernel) rfl⟩
theorem cf_X2_packed : xcfV M_X2_packed 2 := ⟨⟨xt 746 (by decide +kernel) rfl, wi_2, ⟨by decide, by decide, by decide +kernel⟩, rfl, rfl⟩, xt 744 (by decide +kernel) rfl, xt 745 (by decide +kernel) rfl⟩
theorem cf_X3_restart : xcfV M_X3_restart 1 := ⟨⟨xt 372 (by decide +kernel) rfl, wi_3, ⟨by decide, by decide, by decide +kernel⟩, rfl, rfl⟩, xt 370 (by decide +kernel) rfl, xt 371 (by decide +kernel) rfl⟩
theorem cf_X3_isState : xcfV M_X3_isState 1 := ⟨⟨xt 443 (by decide +kernel) rfl, wi_3, ⟨by decide, by decide, by decide +kernel⟩, rfl, rfl⟩, xt 441 (by decide +kernel) rfl, xt 442 (by decide +kernel) rfl⟩
theorem cf_X3_isLetter : xcfV M_X3_isLetter 1 := ⟨⟨xt 428 (by decide +kernel) rfl, wi_3, ⟨by decide, by decide, by decide +kernel⟩, rfl, rfl⟩, xt 426 (by decide +kernel) rfl, xt 427 (by decide +kernel) rfl⟩
theorem cf_X3_isBack : xcfV M_X3_isBack 1 := ⟨⟨xt 392 (by decide +kernel) rfl, wi_3, ⟨by decide, by decide, by decide +kernel⟩, rfl, rfl⟩, xt 390 (by decide +kernel) rfl, xt 391 (by decide +kernel) rfl⟩
theorem cf_X3_canRead : xcfV M_X3_canRead 2 := ⟨⟨xt 420 (by decide +kernel) rfl, wi_3, ⟨by decide, by decide, by decide +kernel⟩, rfl, rfl⟩, xt 418 (by decide +kernel) rfl, xt 419 (by decide +kernel) rfl⟩
theorem cf_X3_read : xcfV M_X3_read 2 := ⟨⟨xt 435 (by decide +kernel) rfl, wi_3, ⟨by decide, by decide, by decide +kernel⟩, rfl, rfl⟩, xt 433 (by decide +kernel) rfl, xt 434 (by decide +kernel) rfl⟩
theorem cf_X3_rewire : xcfV M_X3_rewire 4 := ⟨⟨xt 449 (by decide +kernel) rfl, wi_3, ⟨by decide, by decide, by decide +kernel⟩, rfl, rfl⟩, xt 447 (by decide +kernel) rfl, xt 448 (by decide +kernel) rfl⟩
theorem cf_X3_refresh : xcfV M_X3_refresh 0 := ⟨⟨xt 376 (by decide +kernel) rfl, wi_3, ⟨by decide, by decide, by decide +kernel⟩, rfl, rfl⟩, xt 375 (by decide +kernel) rfl, xp (by decide +kernel) rfl⟩
theorem cf_X3_goals : xcfV M_X3_goals 1 := ⟨⟨xt 380 (by decide +kernel) rfl, wi_3, ⟨by decide, by decide, by decide +kernel⟩, rfl, rfl⟩, xt 379 (by decide +kernel) rfl, xp (by decide +kernel) rfl⟩
theorem cf_X3_writesUnlike : xcfV M_X3_writesUnlike 1 := ⟨⟨xt 384 (by decide +kernel) rfl, wi_3, ⟨by decide, by decide, by decide +kernel⟩, rfl, rfl⟩, xt 383 (by decide +kernel) rfl, xp (by decide +kernel) rfl⟩
theorem cf_X3_listMarks : xcfV M_X3_listMarks 0 := ⟨⟨xt 388 (by decide +kernel) rfl, wi_3, ⟨by decide, by decide, by decide +kernel⟩, rfl, rfl⟩, xt 387 (by decide +kernel) rfl, xp (by decide +kernel) rfl⟩
theorem cf_X3_wireMarks : xcfV M_X3_wireMarks 2 := ⟨⟨xt 396 (by decide +kernel) rfl, wi_3, ⟨by decide, by decide, by decide +kernel⟩, rfl, rfl⟩, xt 395 (by decide +kernel) rfl, xp (by decide +kernel) rfl⟩
theorem cf_X3_rowLength : xcfV M_X3_rowLength 1 := ⟨⟨xt 531 (by decide +kernel) rfl, wi_3, ⟨by decide, by decide, by decide +kernel⟩, rfl, rfl⟩, xt 529 (by decide +kernel) rfl, xt 530 (by decide +kernel) rfl⟩
theorem cf_X3_hasLetters : xcfV M_X3_hasLetters 2 := ⟨⟨xt 535 (by decide +kernel) rfl, wi_3, ⟨by decide, by decide, by decide +kernel⟩, rfl, rfl⟩, xt 534 (by decide +kernel) rfl, xp (by decide +kernel) rfl⟩
theorem cf_X3_rowIndex : xcfV M_X3_rowIndex 2 := ⟨⟨xt 714 (by decide +kernel) rfl, wi_3, ⟨by decide, by decide, by decide +kernel⟩, rfl, rfl⟩, xt 712 (by decide +kernel) rfl, xt 713 (by decide +kernel) rfl⟩
theorem cf_X3_power : xcfV M_X3_power 2 := ⟨⟨xt 652 (by decide +kernel) rfl, wi_3, ⟨by decide, by decide, by decide +kernel⟩, rfl, rfl⟩, xt 650 (by decide +kernel) rfl, xt 651 (by decide +kernel) rfl⟩
theorem cf_X4_reset : xcfV M_X4_reset 0 := ⟨⟨xt 561 (by decide +kernel) rfl, wi_4, ⟨by decide, by decide, by decide +kernel⟩, rfl, rfl⟩, xt 559 (by decide +kernel) rfl, xt 560 (by decide +kernel) rfl⟩
theorem cf_X4_indexOf : xcfV M_X4_indexOf 1 := ⟨⟨xt 608 (by decide +kernel) rfl, wi_4, ⟨by decide, by decide, by decide +kernel⟩, rfl, rfl⟩, xt 606 (by decide +kernel) rfl, xt 607 (by decide +kernel) rfl⟩
theorem cf_X4_load : xcfV M_X4_load 2 := ⟨⟨xt 588 (by decide +kernel) rfl, wi_4, ⟨by decide, by decide, by decide +kernel⟩, rfl, rfl⟩, xt 586 (by decide +kernel) rfl, xt 587 (by decide +kernel) rfl⟩
theorem cf_X4_enter : xcfV M_X4_enter 1 := ⟨⟨xt 783 (by decide +kernel) rfl, wi_4, ⟨by decide, by decide, by decide +kernel⟩, rfl, rfl⟩, xt 781 (by decide +kernel) rfl, xt 782 (by decide +kernel) rfl⟩
theorem cf_X4_take : xcfV M_X4_take 2 := ⟨⟨xt 571 (by decide +kernel) rfl, wi_4, ⟨by decide, by decide, by decide +kernel⟩, rfl, rfl⟩, xt 569 (by decide +kernel) rfl, xt 570 (by decide +kernel) rfl⟩
theorem cf_X4_followParts : xcfV M_X4_followParts 1 := ⟨⟨xt 584 (by decide +kernel) rfl, wi_4, ⟨by decide, by decide, by decide +kernel⟩, rfl, rfl⟩, xt 582 (by decide +kernel) rfl, xt 583 (by decide +kernel) rfl⟩
theorem cf_X4_classify : xcfV M_X4_classify 0 := ⟨⟨xt 593 (by decide +kernel) rfl, wi_4, ⟨by decide, by decide, by decide +kernel⟩, rfl, rfl⟩, xt 591 (by decide +kernel) rfl, xt 592 (by decide +kernel) rfl⟩
theorem cf_X4_refine : xcfV M_X4_refine 0 := ⟨⟨xt 604 (by decide +kernel) rfl, wi_4, ⟨by decide, by decide, by decide +kernel⟩, rfl, rfl⟩, xt 603 (by decide +kernel) rfl, xp (by decide +kernel) rfl⟩
theorem cf_X4_keepRound : xcfV M_X4_keepRound 0 := ⟨⟨xt 597 (by decide +kernel) rfl, wi_4, ⟨by decide, by decide, by decide +kernel⟩, rfl, rfl⟩, xt 596 (by decide +kernel) rfl, xp (by decide +kernel) rfl⟩
theorem cf_X4_areAlike : xcfV M_X4_areAlike 2 := ⟨⟨xt 616 (by decide +kernel) rfl, wi_4, ⟨by decide, by decide, by decide +kernel⟩, rfl, rfl⟩, xt 614 (by decide +kernel) rfl, xt 615 (by decide +kernel) rfl⟩
theorem cf_X4_arePartedBy : xcfV M_X4_arePartedBy 3 := ⟨⟨xt 628 (by decide +kernel) rfl, wi_4, ⟨by decide, by decide, by decide +kernel⟩, rfl, rfl⟩, xt 627 (by decide +kernel) rfl, xp (by decide +kernel) rfl⟩
theorem cf_X4_partingRow : xcfV M_X4_partingRow 2 := ⟨⟨xt 624 (by decide +kernel) rfl, wi_4, ⟨by decide, by decide, by decide +kernel⟩, rfl, rfl⟩, xt 622 (by decide +kernel) rfl, xt 623 (by decide +kernel) rfl⟩
theorem cf_X4_firstPartingLetter : xcfV M_X4_firstPartingLetter 3 := ⟨⟨xt 632 (by decide +kernel) rfl, wi_4, ⟨by decide, by decide, by decide +kernel⟩, rfl, rfl⟩, xt 631 (by decide +kernel) rfl, xp (by decide +kernel) rfl⟩
theorem cf_X4_firstUnlikeLetter : xcfV M_X4_firstUnlikeLetter 1 := ⟨⟨xt 636 (by decide +kernel) rfl, wi_4, ⟨by decide, by decide, by decide +kernel⟩, rfl, rfl⟩, xt 635 (by decide +kernel) rfl, xp (by decide +kernel) rfl⟩
theorem cf_X5_lay : xcfV M_X5_lay 2 := ⟨⟨xt 340 (by decide +kernel) rfl, wi_5, ⟨by decide, by decide, by decide +kernel⟩, rfl, rfl⟩, xt 338 (by decide +kernel) rfl, xt 339 (by decide +kernel) rfl⟩
theorem cf_X5_hasNumber : xcfV M_X5_hasNumber 1 := ⟨⟨xt 351 (by decide +kernel) rfl, wi_5, ⟨by decide, by decide, by decide +kernel⟩, rfl, rfl⟩, xt 349 (by decide +kernel) rfl, xt 350 (by decide +kernel) rfl⟩
theorem cf_X5_hasPair : xcfV M_X5_hasPair 2 := ⟨⟨xt 424 (by decide +kernel) rfl, wi_5, ⟨by decide, by decide, by decide +kernel⟩, rfl, rfl⟩, xt 422 (by decide +kernel) rfl, xt 423 (by decide +kernel) rfl⟩
theorem cf_X5_write : xcfV M_X5_write 2 := ⟨⟨xt 355 (by decide +kernel) rfl, wi_5, ⟨by decide, by decide, by decide +kernel⟩, rfl, rfl⟩, xt 353 (by decide +kernel) rfl, xt 354 (by decide +kernel) rfl⟩
theorem cf_X6_forget : xcfV M_X6_forget 0 := ⟨⟨xt 408 (by decide +kernel) rfl, wi_6, ⟨by decide, by decide, by decide +kernel⟩, rfl, rfl⟩, xt 406 (by decide +kernel) rfl, xt 407 (by decide +kernel) rfl⟩
theorem cf_X6_gatherWithin : xcfV M_X6_gatherWithin 2 := ⟨⟨xt 769 (by decide +kernel) rfl, wi_6, ⟨by decide, by decide, by decide +kernel⟩, rfl, rfl⟩, xt 767 (by decide +kernel) rfl, xt 768 (by decide +kernel) rfl⟩
theorem cf_X6_enterWithin : xcfV M_X6_enterWithin 2 := ⟨⟨xt 773 (by decide +kernel) rfl, wi_6, ⟨by decide, by decide, by decide +kernel⟩, rfl, rfl⟩, xt 772 (by decide +kernel) rfl, xp (by decide +kernel) rfl⟩
theorem cf_X6_beginWithEmpty : xcfV M_X6_beginWithEmpty 0 := ⟨⟨xt 777 (by decide +kernel) rfl, wi_6, ⟨by decide, by decide, by decide +kernel⟩, rfl, rfl⟩, xt 776 (by decide +kernel) rfl, xp (by decide +kernel) rfl⟩
theorem cf_X6_extend : xcfV M_X6_extend 2 := ⟨⟨xt 787 (by decide +kernel) rfl, wi_6, ⟨by decide, by decide, by decide +kernel⟩, rfl, rfl⟩, xt 786 (by decide +kernel) rfl, xp (by decide +kernel) rfl⟩
theorem cf_X6_isLaw : xcfV M_X6_isLaw 1 := ⟨⟨xt 803 (by decide +kernel) rfl, wi_6, ⟨by decide, by decide, by decide +kernel⟩, rfl, rfl⟩, xt 802 (by decide +kernel) rfl, xp (by decide +kernel) rfl⟩
theorem cf_X6_countLaws : xcfV M_X6_countLaws 0 := ⟨⟨xt 799 (by decide +kernel) rfl, wi_6, ⟨by decide, by decide, by decide +kernel⟩, rfl, rfl⟩, xt 797 (by decide +kernel) rfl, xt 798 (by decide +kernel) rfl⟩
theorem cf_X6_findLaw : xcfV M_X6_findLaw 1 := ⟨⟨xt 812 (by decide +kernel) rfl, wi_6, ⟨by decide, by decide, by decide +kernel⟩, rfl, rfl⟩, xt 810 (by decide +kernel) rfl, xt 811 (by decide +kernel) rfl⟩
theorem cf_X6_gatherFallen : xcfV M_X6_gatherFallen 2 := ⟨⟨xt 821 (by decide +kernel) rfl, wi_6, ⟨by decide, by decide, by decide +kernel⟩, rfl, rfl⟩, xt 819 (by decide +kernel) rfl, xt 820 (by decide +kernel) rfl⟩
theorem cf_X6_lookAtParts : xcfV M_X6_lookAtParts 3 := ⟨⟨xt 828 (by decide +kernel) rfl, wi_6, ⟨by decide, by decide, by decide +kernel⟩, rfl, rfl⟩, xt 827 (by decide +kernel) rfl, xp (by decide +kernel) rfl⟩
theorem cf_X6_addUnlike : xcfV M_X6_addUnlike 0 := ⟨⟨xt 835 (by decide +kernel) rfl, wi_6, ⟨by decide, by decide, by decide +kernel⟩, rfl, rfl⟩, xt 834 (by decide +kernel) rfl, xp (by decide +kernel) rfl⟩
theorem cf_X7_empty : xcfV M_X7_empty 0 := ⟨⟨xt 412 (by decide +kernel) rfl, wi_7, ⟨by decide, by decide, by decide +kernel⟩, rfl, rfl⟩, xt 410 (by decide +kernel) rfl, xt 411 (by decide +kernel) rfl⟩
theorem cf_X7_copy : xcfV M_X7_copy 1 := ⟨⟨xt 492 (by decide +kernel) rfl, wi_7, ⟨by decide, by decide, by decide +kernel⟩, rfl, rfl⟩, xt 490 (by decide +kernel) rfl, xt 491 (by decide +kernel) rfl⟩
theorem cf_X7_mark : xcfV M_X7_mark 1 := ⟨⟨xt 457 (by decide +kernel) rfl, wi_7, ⟨by decide, by decide, by decide +kernel⟩, rfl, rfl⟩, xt 455 (by decide +kernel) rfl, xt 456 (by decide +kernel) rfl⟩
theorem cf_X7_push : xcfV M_X7_push 1 := ⟨⟨xt 484 (by decide +kernel) rfl, wi_7, ⟨by decide, by decide, by decide +kernel⟩, rfl, rfl⟩, xt 482 (by decide +kernel) rfl, xt 483 (by decide +kernel) rfl⟩
theorem cf_X7_descend : xcfV M_X7_descend 2 := ⟨⟨xt 543 (by decide +kernel) rfl, wi_7, ⟨by decide, by decide, by decide +kernel⟩, rfl, rfl⟩, xt 541 (by decide +kernel) rfl, xt 542 (by decide +kernel) rfl⟩
theorem cf_X8_sheet : xcfV M_X8_sheet 3 := ⟨⟨xt 333 (by decide +kernel) rfl, wi_8, ⟨by decide, by decide, by decide +kernel⟩, rfl, rfl⟩, xt 331 (by decide +kernel) rfl, xt 332 (by decide +kernel) rfl⟩
theorem cf_X8_cell : xcfV M_X8_cell 3 := ⟨⟨xt 347 (by decide +kernel) rfl, wi_8, ⟨by decide, by decide, by decide +kernel⟩, rfl, rfl⟩, xt 345 (by decide +kernel) rfl, xt 346 (by decide +kernel) rfl⟩
theorem cf_X8_told : xcfV M_X8_told 2 := ⟨⟨xt 359 (by decide +kernel) rfl, wi_8, ⟨by decide, by decide, by decide +kernel⟩, rfl, rfl⟩, xt 357 (by decide +kernel) rfl, xt 358 (by decide +kernel) rfl⟩
theorem cf_X8_lose : xcfV M_X8_lose 1 := ⟨⟨xt 364 (by decide +kernel) rfl, wi_8, ⟨by decide, by decide, by decide +kernel⟩, rfl, rfl⟩, xt 362 (by decide +kernel) rfl, xt 363 (by decide +kernel) rfl⟩
theorem cf_X8_letters : xcfV M_X8_letters 1 := ⟨⟨xt 368 (by decide +kernel) rfl, wi_8, ⟨by decide, by decide, by decide +kernel⟩, rfl, rfl⟩, xt 366 (by decide +kernel) rfl, xt 367 (by decide +kernel) rfl⟩
theorem cf_X8_state : xcfV M_X8_state 2 := ⟨⟨xt 416 (by decide +kernel) rfl, wi_8, ⟨by decide, by decide, by decide +kernel⟩, rfl, rfl⟩, xt 414 (by decide +kernel) rfl, xt 415 (by decide +kernel) rfl⟩
theorem cf_X8_change : xcfV M_X8_change 4 := ⟨⟨xt 439 (by decide +kernel) rfl, wi_8, ⟨by decide, by decide, by decide +kernel⟩, rfl, rfl⟩, xt 437 (by decide +kernel) rfl, xt 438 (by decide +kernel) rfl⟩
theorem cf_X8_of : xcfV M_X8_of 3 := ⟨⟨xt 462 (by decide +kernel) rfl, wi_8, ⟨by decide, by decide, by decide +kernel⟩, rfl, rfl⟩, xt 460 (by decide +kernel) rfl, xt 461 (by decide +kernel) rfl⟩
theorem cf_X8_many : xcfV M_X8_many 1 := ⟨⟨xt 466 (by decide +kernel) rfl, wi_8, ⟨by decide, by decide, by decide +kernel⟩, rfl, rfl⟩, xt 464 (by decide +kernel) rfl, xt 465 (by decide +kernel) rfl⟩
theorem cf_X8_put : xcfV M_X8_put 5 := ⟨⟨xt 470 (by decide +kernel) rfl, wi_8, ⟨by decide, by decide, by decide +kernel⟩, rfl, rfl⟩, xt 468 (by decide +kernel) rfl, xt 469 (by decide +kernel) rfl⟩
theorem cf_X8_wipe : xcfV M_X8_wipe 1 := ⟨⟨xt 500 (by decide +kernel) rfl, wi_8, ⟨by decide, by decide, by decide +kernel⟩, rfl, rfl⟩, xt 498 (by decide +kernel) rfl, xt 499 (by decide +kernel) rfl⟩
theorem cf_X8_size : xcfV M_X8_size 1 := ⟨⟨xt 504 (by decide +kernel) rfl, wi_8, ⟨by decide, by decide, by decide +kernel⟩, rfl, rfl⟩, xt 502 (by decide +kernel) rfl, xt 503 (by decide +kernel) rfl⟩
theorem cf_X8_token : xcfV M_X8_token 2 := ⟨⟨xt 508 (by decide +kernel) rfl, wi_8, ⟨by decide, by decide, by decide +kernel⟩, rfl, rfl⟩, xt 506 (by decide +kernel) rfl, xt 507 (by decide +kernel) rfl⟩
theorem cf_X8_times : xcfV M_X8_times 3 := ⟨⟨xt 515 (by decide +kernel) rfl, wi_8, ⟨by decide, by decide, by decide +kernel⟩, rfl, rfl⟩, xt 513 (by decide +kernel) rfl, xt 514 (by decide +kernel) rfl⟩
theorem cf_X8_turn : xcfV M_X8_turn 2 := ⟨⟨xt 519 (by decide +kernel) rfl, wi_8, ⟨by decide, by decide, by decide +kernel⟩, rfl, rfl⟩, xt 517 (by decide +kernel) rfl, xt 518 (by decide +kernel) rfl⟩
theorem cf_X8_act : xcfV M_X8_act 2 := ⟨⟨xt 527 (by decide +kernel) rfl, wi_8, ⟨by decide, by decide, by decide +kernel⟩, rfl, rfl⟩, xt 525 (by decide +kernel) rfl, xt 526 (by decide +kernel) rfl⟩
theorem cf_X8_part : xcfV M_X8_part 3 := ⟨⟨xt 549 (by decide +kernel) rfl, wi_8, ⟨by decide, by decide, by decide +kernel⟩, rfl, rfl⟩, xt 547 (by decide +kernel) rfl, xt 548 (by decide +kernel) rfl⟩
theorem cf_X8_same : xcfV M_X8_same 2 := ⟨⟨xt 553 (by decide +kernel) rfl, wi_8, ⟨by decide, by decide, by decide +kernel⟩, rfl, rfl⟩, xt 551 (by decide +kernel) rfl, xt 552 (by decide +kernel) rfl⟩
theorem cf_X8_apart : xcfV M_X8_apart 2 := ⟨⟨xt 620 (by decide +kernel) rfl, wi_8, ⟨by decide, by decide, by decide +kernel⟩, rfl, rfl⟩, xt 618 (by decide +kernel) rfl, xt 619 (by decide +kernel) rfl⟩
theorem cf_X8_heap : xcfV M_X8_heap 1 := ⟨⟨xt 640 (by decide +kernel) rfl, wi_8, ⟨by decide, by decide, by decide +kernel⟩, rfl, rfl⟩, xt 638 (by decide +kernel) rfl, xt 639 (by decide +kernel) rfl⟩
theorem cf_X8_least : xcfV M_X8_least 1 := ⟨⟨xt 644 (by decide +kernel) rfl, wi_8, ⟨by decide, by decide, by decide +kernel⟩, rfl, rfl⟩, xt 642 (by decide +kernel) rfl, xt 643 (by decide +kernel) rfl⟩
theorem cf_X8_order : xcfV M_X8_order 2 := ⟨⟨xt 648 (by decide +kernel) rfl, wi_8, ⟨by decide, by decide, by decide +kernel⟩, rfl, rfl⟩, xt 646 (by decide +kernel) rfl, xt 647 (by decide +kernel) rfl⟩
theorem cf_X8_orbits : xcfV M_X8_orbits 1 := ⟨⟨xt 688 (by decide +kernel) rfl, wi_8, ⟨by decide, by decide, by decide +kernel⟩, rfl, rfl⟩, xt 686 (by decide +kernel) rfl, xt 687 (by decide +kernel) rfl⟩
theorem cf_X8_orbit : xcfV M_X8_orbit 1 := ⟨⟨xt 701 (by decide +kernel) rfl, wi_8, ⟨by decide, by decide, by decide +kernel⟩, rfl, rfl⟩, xt 699 (by decide +kernel) rfl, xt 700 (by decide +kernel) rfl⟩
theorem cf_X8_far : xcfV M_X8_far 2 := ⟨⟨xt 719 (by decide +kernel) rfl, wi_8, ⟨by decide, by decide, by decide +kernel⟩, rfl, rfl⟩, xt 717 (by decide +kernel) rfl, xt 718 (by decide +kernel) rfl⟩
theorem cf_X8_way : xcfV M_X8_way 3 := ⟨⟨xt 723 (by decide +kernel) rfl, wi_8, ⟨by decide, by decide, by decide +kernel⟩, rfl, rfl⟩, xt 721 (by decide +kernel) rfl, xt 722 (by decide +kernel) rfl⟩
theorem cf_X8_reach : xcfV M_X8_reach 1 := ⟨⟨xt 732 (by decide +kernel) rfl, wi_8, ⟨by decide, by decide, by decide +kernel⟩, rfl, rfl⟩, xt 730 (by decide +kernel) rfl, xt 731 (by decide +kernel) rfl⟩
theorem cf_X8_group : xcfV M_X8_group 1 := ⟨⟨xt 736 (by decide +kernel) rfl, wi_8, ⟨by decide, by decide, by decide +kernel⟩, rfl, rfl⟩, xt 734 (by decide +kernel) rfl, xt 735 (by decide +kernel) rfl⟩
theorem cf_X8_growth : xcfV M_X8_growth 1 := ⟨⟨xt 765 (by decide +kernel) rfl, wi_8, ⟨by decide, by decide, by decide +kernel⟩, rfl, rfl⟩, xt 763 (by decide +kernel) rfl, xt 764 (by decide +kernel) rfl⟩
theorem cf_X8_laws : xcfV M_X8_laws 1 := ⟨⟨xt 795 (by decide +kernel) rfl, wi_8, ⟨by decide, by decide, by decide +kernel⟩, rfl, rfl⟩, xt 793 (by decide +kernel) rfl, xt 794 (by decide +kernel) rfl⟩
theorem cf_X8_law : xcfV M_X8_law 3 := ⟨⟨xt 808 (by decide +kernel) rfl, wi_8, ⟨by decide, by decide, by decide +kernel⟩, rfl, rfl⟩, xt 806 (by decide +kernel) rfl, xt 807 (by decide +kernel) rfl⟩
theorem cf_X8_fall : xcfV M_X8_fall 1 := ⟨⟨xt 817 (by decide +kernel) rfl, wi_8, ⟨by decide, by decide, by decide +kernel⟩, rfl, rfl⟩, xt 815 (by decide +kernel) rfl, xt 816 (by decide +kernel) rfl⟩
theorem cf_X8_fallen : xcfV M_X8_fallen 3 := ⟨⟨xt 840 (by decide +kernel) rfl, wi_8, ⟨by decide, by decide, by decide +kernel⟩, rfl, rfl⟩, xt 838 (by decide +kernel) rfl, xt 839 (by decide +kernel) rfl⟩
theorem cf_X8_isSheet : xcfS M_X8_isSheet 1 := ⟨⟨xt 336 (by decide +kernel) rfl, wi_8, ⟨by decide, by decide, by decide +kernel⟩, rfl, rfl⟩, xt 335 (by decide +kernel) rfl⟩
theorem cf_X8_isSpot : xcfS M_X8_isSpot 1 := ⟨⟨xt 473 (by decide +kernel) rfl, wi_8, ⟨by decide, by decide, by decide +kernel⟩, rfl, rfl⟩, xt 472 (by decide +kernel) rfl⟩
theorem cf_X8_isGoal : xcfS M_X8_isGoal 1 := ⟨⟨xt 431 (by decide +kernel) rfl, wi_8, ⟨by decide, by decide, by decide +kernel⟩, rfl, rfl⟩, xt 430 (by decide +kernel) rfl⟩
theorem cf_X8_markOf : xcfS M_X8_markOf 1 := ⟨⟨xt 480 (by decide +kernel) rfl, wi_8, ⟨by decide, by decide, by decide +kernel⟩, rfl, rfl⟩, xt 479 (by decide +kernel) rfl⟩
theorem cf_X8_tokenOf : xcfS M_X8_tokenOf 1 := ⟨⟨xt 511 (by decide +kernel) rfl, wi_8, ⟨by decide, by decide, by decide +kernel⟩, rfl, rfl⟩, xt 510 (by decide +kernel) rfl⟩
theorem cf_X8_forgetAnswers : xcfV M_X8_forgetAnswers 0 := ⟨⟨xt 400 (by decide +kernel) rfl, wi_8, ⟨by decide, by decide, by decide +kernel⟩, rfl, rfl⟩, xt 399 (by decide +kernel) rfl, xp (by decide +kernel) rfl⟩
theorem cf_X8_hasLostWayBack : xcfV M_X8_hasLostWayBack 1 := ⟨⟨xt 453 (by decide +kernel) rfl, wi_8, ⟨by decide, by decide, by decide +kernel⟩, rfl, rfl⟩, xt 452 (by decide +kernel) rfl, xp (by decide +kernel) rfl⟩
theorem cf_X8_hasBackStates : xcfV M_X8_hasBackStates 1 := ⟨⟨xt 523 (by decide +kernel) rfl, wi_8, ⟨by decide, by decide, by decide +kernel⟩, rfl, rfl⟩, xt 522 (by decide +kernel) rfl, xp (by decide +kernel) rfl⟩
theorem cf_X8_refusalOfGiven : xcfV M_X8_refusalOfGiven 0 := ⟨⟨xt 477 (by decide +kernel) rfl, wi_8, ⟨by decide, by decide, by decide +kernel⟩, rfl, rfl⟩, xt 476 (by decide +kernel) rfl, xp (by decide +kernel) rfl⟩
theorem cf_X8_bring : xcfV M_X8_bring 2 := ⟨⟨xt 496 (by decide +kernel) rfl, wi_8, ⟨by decide, by decide, by decide +kernel⟩, rfl, rfl⟩, xt 495 (by decide +kernel) rfl, xp (by decide +kernel) rfl⟩
theorem cf_X8_join : xcfV M_X8_join 3 := ⟨⟨xt 488 (by decide +kernel) rfl, wi_8, ⟨by decide, by decide, by decide +kernel⟩, rfl, rfl⟩, xt 487 (by decide +kernel) rfl, xp (by decide +kernel) rfl⟩
theorem cf_X8_walkDown : xcfV M_X8_walkDown 3 := ⟨⟨xt 539 (by decide +kernel) rfl, wi_8, ⟨by decide, by decide, by decide +kernel⟩, rfl, rfl⟩, xt 538 (by decide +kernel) rfl, xp (by decide +kernel) rfl⟩
theorem cf_X8_gather : xcfV M_X8_gather 2 := ⟨⟨xt 557 (by decide +kernel) rfl, wi_8, ⟨by decide, by decide, by decide +kernel⟩, rfl, rfl⟩, xt 556 (by decide +kernel) rfl, xp (by decide +kernel) rfl⟩
theorem cf_X8_levelOf : xcfV M_X8_levelOf 1 := ⟨⟨xt 705 (by decide +kernel) rfl, wi_8, ⟨by decide, by decide, by decide +kernel⟩, rfl, rfl⟩, xt 704 (by decide +kernel) rfl, xp (by decide +kernel) rfl⟩
theorem cf_X8_walkFrom : xcfV M_X8_walkFrom 2 := ⟨⟨xt 709 (by decide +kernel) rfl, wi_8, ⟨by decide, by decide, by decide +kernel⟩, rfl, rfl⟩, xt 708 (by decide +kernel) rfl, xp (by decide +kernel) rfl⟩
theorem cf_X9_in : xcfS M_X9_in 3 := ⟨⟨xt 985 (by decide +kernel) rfl, wi_9, ⟨by decide, by decide, by decide +kernel⟩, rfl, rfl⟩, xt 984 (by decide +kernel) rfl⟩
theorem cf_X9_isSheet : xcfS M_X9_isSheet 1 := ⟨⟨xt 981 (by decide +kernel) rfl, wi_9, ⟨by decide, by decide, by decide +kernel⟩, rfl, rfl⟩, xt 980 (by decide +kernel) rfl⟩
theorem cf_X9_isSpot : xcfS M_X9_isSpot 1 := ⟨⟨xt 1045 (by decide +kernel) rfl, wi_9, ⟨by decide, by decide, by decide +kernel⟩, rfl, rfl⟩, xt 1044 (by decide +kernel) rfl⟩
theorem cf_X9_sheet : xcfV M_X9_sheet 3 := ⟨⟨xt 978 (by decide +kernel) rfl, wi_9, ⟨by decide, by decide, by decide +kernel⟩, rfl, rfl⟩, xt 976 (by decide +kernel) rfl, xt 977 (by decide +kernel) rfl⟩
theorem cf_X9_cell : xcfV M_X9_cell 3 := ⟨⟨xt 990 (by decide +kernel) rfl, wi_9, ⟨by decide, by decide, by decide +kernel⟩, rfl, rfl⟩, xt 988 (by decide +kernel) rfl, xt 989 (by decide +kernel) rfl⟩
theorem cf_X9_told : xcfV M_X9_told 2 := ⟨⟨xt 994 (by decide +kernel) rfl, wi_9, ⟨by decide, by decide, by decide +kernel⟩, rfl, rfl⟩, xt 992 (by decide +kernel) rfl, xt 993 (by decide +kernel) rfl⟩
theorem cf_X9_lose : xcfV M_X9_lose 1 := ⟨⟨xt 999 (by decide +kernel) rfl, wi_9, ⟨by decide, by decide, by decide +kernel⟩, rfl, rfl⟩, xt 997 (by decide +kernel) rfl, xt 998 (by decide +kernel) rfl⟩
theorem cf_X9_letters : xcfV M_X9_letters 1 := ⟨⟨xt 1003 (by decide +kernel) rfl, wi_9, ⟨by decide, by decide, by decide +kernel⟩, rfl, rfl⟩, xt 1001 (by decide +kernel) rfl, xt 1002 (by decide +kernel) rfl⟩
theorem cf_X9_state : xcfV M_X9_state 2 := ⟨⟨xt 1008 (by decide +kernel) rfl, wi_9, ⟨by decide, by decide, by decide +kernel⟩, rfl, rfl⟩, xt 1006 (by decide +kernel) rfl, xt 1007 (by decide +kernel) rfl⟩
theorem cf_X9_isFair : xcfV M_X9_isFair 1 := ⟨⟨xt 1022 (by decide +kernel) rfl, wi_9, ⟨by decide, by decide, by decide +kernel⟩, rfl, rfl⟩, xt 1021 (by decide +kernel) rfl, xp (by decide +kernel) rfl⟩
theorem cf_X9_isBack : xcfV M_X9_isBack 1 := ⟨⟨xt 1018 (by decide +kernel) rfl, wi_9, ⟨by decide, by decide, by decide +kernel⟩, rfl, rfl⟩, xt 1017 (by decide +kernel) rfl, xp (by decide +kernel) rfl⟩
theorem cf_X9_change : xcfV M_X9_change 4 := ⟨⟨xt 1014 (by decide +kernel) rfl, wi_9, ⟨by decide, by decide, by decide +kernel⟩, rfl, rfl⟩, xt 1012 (by decide +kernel) rfl, xt 1013 (by decide +kernel) rfl⟩
theorem cf_X9_of : xcfV M_X9_of 3 := ⟨⟨xt 1026 (by decide +kernel) rfl, wi_9, ⟨by decide, by decide, by decide +kernel⟩, rfl, rfl⟩, xt 1024 (by decide +kernel) rfl, xt 1025 (by decide +kernel) rfl⟩
theorem cf_X9_isWhole : xcfV M_X9_isWhole 0 := ⟨⟨xt 1038 (by decide +kernel) rfl, wi_9, ⟨by decide, by decide, by decide +kernel⟩, rfl, rfl⟩, xt 1037 (by decide +kernel) rfl, xp (by decide +kernel) rfl⟩
theorem cf_X9_findTokens : xcfV M_X9_findTokens 0 := ⟨⟨xt 1034 (by decide +kernel) rfl, wi_9, ⟨by decide, by decide, by decide +kernel⟩, rfl, rfl⟩, xt 1033 (by decide +kernel) rfl, xp (by decide +kernel) rfl⟩
theorem cf_X9_many : xcfV M_X9_many 1 := ⟨⟨xt 1030 (by decide +kernel) rfl, wi_9, ⟨by decide, by decide, by decide +kernel⟩, rfl, rfl⟩, xt 1028 (by decide +kernel) rfl, xt 1029 (by decide +kernel) rfl⟩
theorem cf_X9_add : xcfV M_X9_add 2 := ⟨⟨xt 1053 (by decide +kernel) rfl, wi_9, ⟨by decide, by decide, by decide +kernel⟩, rfl, rfl⟩, xt 1052 (by decide +kernel) rfl, xp (by decide +kernel) rfl⟩
theorem cf_X9_copy : xcfV M_X9_copy 2 := ⟨⟨xt 1049 (by decide +kernel) rfl, wi_9, ⟨by decide, by decide, by decide +kernel⟩, rfl, rfl⟩, xt 1048 (by decide +kernel) rfl, xp (by decide +kernel) rfl⟩
theorem cf_X9_put : xcfV M_X9_put 5 := ⟨⟨xt 1042 (by decide +kernel) rfl, wi_9, ⟨by decide, by decide, by decide +kernel⟩, rfl, rfl⟩, xt 1040 (by decide +kernel) rfl, xt 1041 (by decide +kernel) rfl⟩
theorem cf_X9_wipe : xcfV M_X9_wipe 1 := ⟨⟨xt 1057 (by decide +kernel) rfl, wi_9, ⟨by decide, by decide, by decide +kernel⟩, rfl, rfl⟩, xt 1055 (by decide +kernel) rfl, xt 1056 (by decide +kernel) rfl⟩
theorem cf_X9_size : xcfV M_X9_size 1 := ⟨⟨xt 1061 (by decide +kernel) rfl, wi_9, ⟨by decide, by decide, by decide +kernel⟩, rfl, rfl⟩, xt 1059 (by decide +kernel) rfl, xt 1060 (by decide +kernel) rfl⟩
theorem cf_X9_token : xcfV M_X9_token 2 := ⟨⟨xt 1065 (by decide +kernel) rfl, wi_9, ⟨by decide, by decide, by decide +kernel⟩, rfl, rfl⟩, xt 1063 (by decide +kernel) rfl, xt 1064 (by decide +kernel) rfl⟩
theorem cf_X9_times : xcfV M_X9_times 3 := ⟨⟨xt 1069 (by decide +kernel) rfl, wi_9, ⟨by decide, by decide, by decide +kernel⟩, rfl, rfl⟩, xt 1067 (by decide +kernel) rfl, xt 1068 (by decide +kernel) rfl⟩
theorem cf_X9_turn : xcfV M_X9_turn 2 := ⟨⟨xt 1073 (by decide +kernel) rfl, wi_9, ⟨by decide, by decide, by decide +kernel⟩, rfl, rfl⟩, xt 1071 (by decide +kernel) rfl, xt 1072 (by decide +kernel) rfl⟩
theorem cf_X9_step : xcfV M_X9_step 2 := ⟨⟨xt 1089 (by decide +kernel) rfl, wi_9, ⟨by decide, by decide, by decide +kernel⟩, rfl, rfl⟩, xt 1088 (by decide +kernel) rfl, xp (by decide +kernel) rfl⟩
theorem cf_X9_partAt : xcfV M_X9_partAt 3 := ⟨⟨xt 1105 (by decide +kernel) rfl, wi_9, ⟨by decide, by decide, by decide +kernel⟩, rfl, rfl⟩, xt 1104 (by decide +kernel) rfl, xp (by decide +kernel) rfl⟩
theorem cf_X9_takeRow : xcfV M_X9_takeRow 2 := ⟨⟨xt 1081 (by decide +kernel) rfl, wi_9, ⟨by decide, by decide, by decide +kernel⟩, rfl, rfl⟩, xt 1080 (by decide +kernel) rfl, xp (by decide +kernel) rfl⟩
theorem cf_X9_rowNumber : xcfV M_X9_rowNumber 0 := ⟨⟨xt 1093 (by decide +kernel) rfl, wi_9, ⟨by decide, by decide, by decide +kernel⟩, rfl, rfl⟩, xt 1092 (by decide +kernel) rfl, xp (by decide +kernel) rfl⟩
theorem cf_X9_rewrite : xcfV M_X9_rewrite 1 := ⟨⟨xt 1085 (by decide +kernel) rfl, wi_9, ⟨by decide, by decide, by decide +kernel⟩, rfl, rfl⟩, xt 1084 (by decide +kernel) rfl, xp (by decide +kernel) rfl⟩
theorem cf_X9_act : xcfV M_X9_act 2 := ⟨⟨xt 1077 (by decide +kernel) rfl, wi_9, ⟨by decide, by decide, by decide +kernel⟩, rfl, rfl⟩, xt 1075 (by decide +kernel) rfl, xt 1076 (by decide +kernel) rfl⟩
theorem cf_X9_partAtRow : xcfV M_X9_partAtRow 2 := ⟨⟨xt 1101 (by decide +kernel) rfl, wi_9, ⟨by decide, by decide, by decide +kernel⟩, rfl, rfl⟩, xt 1100 (by decide +kernel) rfl, xp (by decide +kernel) rfl⟩
theorem cf_X9_part : xcfV M_X9_part 3 := ⟨⟨xt 1097 (by decide +kernel) rfl, wi_9, ⟨by decide, by decide, by decide +kernel⟩, rfl, rfl⟩, xt 1095 (by decide +kernel) rfl, xt 1096 (by decide +kernel) rfl⟩
theorem cf_X9_findInHeap : xcfV M_X9_findInHeap 1 := ⟨⟨xt 1125 (by decide +kernel) rfl, wi_9, ⟨by decide, by decide, by decide +kernel⟩, rfl, rfl⟩, xt 1124 (by decide +kernel) rfl, xp (by decide +kernel) rfl⟩
theorem cf_X9_toHeap : xcfV M_X9_toHeap 1 := ⟨⟨xt 1121 (by decide +kernel) rfl, wi_9, ⟨by decide, by decide, by decide +kernel⟩, rfl, rfl⟩, xt 1120 (by decide +kernel) rfl, xp (by decide +kernel) rfl⟩
theorem cf_X9_fromHeap : xcfV M_X9_fromHeap 2 := ⟨⟨xt 1133 (by decide +kernel) rfl, wi_9, ⟨by decide, by decide, by decide +kernel⟩, rfl, rfl⟩, xt 1132 (by decide +kernel) rfl, xp (by decide +kernel) rfl⟩
theorem cf_X9_grow : xcfV M_X9_grow 0 := ⟨⟨xt 1129 (by decide +kernel) rfl, wi_9, ⟨by decide, by decide, by decide +kernel⟩, rfl, rfl⟩, xt 1128 (by decide +kernel) rfl, xp (by decide +kernel) rfl⟩
theorem cf_X9_beginHeap : xcfV M_X9_beginHeap 0 := ⟨⟨xt 1117 (by decide +kernel) rfl, wi_9, ⟨by decide, by decide, by decide +kernel⟩, rfl, rfl⟩, xt 1116 (by decide +kernel) rfl, xp (by decide +kernel) rfl⟩
theorem cf_X9_isSameNow : xcfV M_X9_isSameNow 2 := ⟨⟨xt 1145 (by decide +kernel) rfl, wi_9, ⟨by decide, by decide, by decide +kernel⟩, rfl, rfl⟩, xt 1144 (by decide +kernel) rfl, xp (by decide +kernel) rfl⟩
theorem cf_X9_partOnce : xcfV M_X9_partOnce 0 := ⟨⟨xt 1141 (by decide +kernel) rfl, wi_9, ⟨by decide, by decide, by decide +kernel⟩, rfl, rfl⟩, xt 1140 (by decide +kernel) rfl, xp (by decide +kernel) rfl⟩
theorem cf_X9_partAll : xcfV M_X9_partAll 0 := ⟨⟨xt 1137 (by decide +kernel) rfl, wi_9, ⟨by decide, by decide, by decide +kernel⟩, rfl, rfl⟩, xt 1136 (by decide +kernel) rfl, xp (by decide +kernel) rfl⟩
theorem cf_X9_takeTwo : xcfV M_X9_takeTwo 2 := ⟨⟨xt 1113 (by decide +kernel) rfl, wi_9, ⟨by decide, by decide, by decide +kernel⟩, rfl, rfl⟩, xt 1112 (by decide +kernel) rfl, xp (by decide +kernel) rfl⟩
theorem cf_X9_same : xcfV M_X9_same 2 := ⟨⟨xt 1109 (by decide +kernel) rfl, wi_9, ⟨by decide, by decide, by decide +kernel⟩, rfl, rfl⟩, xt 1107 (by decide +kernel) rfl, xt 1108 (by decide +kernel) rfl⟩
theorem cf_X9_apart : xcfV M_X9_apart 2 := ⟨⟨xt 1149 (by decide +kernel) rfl, wi_9, ⟨by decide, by decide, by decide +kernel⟩, rfl, rfl⟩, xt 1147 (by decide +kernel) rfl, xt 1148 (by decide +kernel) rfl⟩
theorem cf_X9_isParted : xcfV M_X9_isParted 4 := ⟨⟨xt 1153 (by decide +kernel) rfl, wi_9, ⟨by decide, by decide, by decide +kernel⟩, rfl, rfl⟩, xt 1152 (by decide +kernel) rfl, xp (by decide +kernel) rfl⟩
theorem cf_X9_heap : xcfV M_X9_heap 1 := ⟨⟨xt 1157 (by decide +kernel) rfl, wi_9, ⟨by decide, by decide, by decide +kernel⟩, rfl, rfl⟩, xt 1155 (by decide +kernel) rfl, xt 1156 (by decide +kernel) rfl⟩
theorem cf_X9_least : xcfV M_X9_least 1 := ⟨⟨xt 1161 (by decide +kernel) rfl, wi_9, ⟨by decide, by decide, by decide +kernel⟩, rfl, rfl⟩, xt 1159 (by decide +kernel) rfl, xt 1160 (by decide +kernel) rfl⟩
theorem cf_X9_rowsOf : xcfV M_X9_rowsOf 2 := ⟨⟨xt 1169 (by decide +kernel) rfl, wi_9, ⟨by decide, by decide, by decide +kernel⟩, rfl, rfl⟩, xt 1168 (by decide +kernel) rfl, xp (by decide +kernel) rfl⟩
theorem cf_X9_rowAt : xcfV M_X9_rowAt 2 := ⟨⟨xt 1177 (by decide +kernel) rfl, wi_9, ⟨by decide, by decide, by decide +kernel⟩, rfl, rfl⟩, xt 1176 (by decide +kernel) rfl, xp (by decide +kernel) rfl⟩
theorem cf_X9_placeNow : xcfV M_X9_placeNow 0 := ⟨⟨xt 1181 (by decide +kernel) rfl, wi_9, ⟨by decide, by decide, by decide +kernel⟩, rfl, rfl⟩, xt 1180 (by decide +kernel) rfl, xp (by decide +kernel) rfl⟩
theorem cf_X9_findLevel : xcfV M_X9_findLevel 1 := ⟨⟨xt 1193 (by decide +kernel) rfl, wi_9, ⟨by decide, by decide, by decide +kernel⟩, rfl, rfl⟩, xt 1192 (by decide +kernel) rfl, xp (by decide +kernel) rfl⟩
theorem cf_X9_isTokenBack : xcfV M_X9_isTokenBack 1 := ⟨⟨xt 1173 (by decide +kernel) rfl, wi_9, ⟨by decide, by decide, by decide +kernel⟩, rfl, rfl⟩, xt 1172 (by decide +kernel) rfl, xp (by decide +kernel) rfl⟩
theorem cf_X9_common : xcfS M_X9_common 2 := ⟨⟨xt 1184 (by decide +kernel) rfl, wi_9, ⟨by decide, by decide, by decide +kernel⟩, rfl, rfl⟩, xt 1183 (by decide +kernel) rfl⟩
theorem cf_X9_order : xcfV M_X9_order 2 := ⟨⟨xt 1165 (by decide +kernel) rfl, wi_9, ⟨by decide, by decide, by decide +kernel⟩, rfl, rfl⟩, xt 1163 (by decide +kernel) rfl, xt 1164 (by decide +kernel) rfl⟩
theorem cf_X9_orbits : xcfV M_X9_orbits 1 := ⟨⟨xt 1189 (by decide +kernel) rfl, wi_9, ⟨by decide, by decide, by decide +kernel⟩, rfl, rfl⟩, xt 1187 (by decide +kernel) rfl, xt 1188 (by decide +kernel) rfl⟩
theorem cf_X9_takeLevel : xcfV M_X9_takeLevel 1 := ⟨⟨xt 1202 (by decide +kernel) rfl, wi_9, ⟨by decide, by decide, by decide +kernel⟩, rfl, rfl⟩, xt 1201 (by decide +kernel) rfl, xp (by decide +kernel) rfl⟩
theorem cf_X9_findFar : xcfV M_X9_findFar 1 := ⟨⟨xt 1206 (by decide +kernel) rfl, wi_9, ⟨by decide, by decide, by decide +kernel⟩, rfl, rfl⟩, xt 1205 (by decide +kernel) rfl, xp (by decide +kernel) rfl⟩
theorem cf_X9_orbit : xcfV M_X9_orbit 1 := ⟨⟨xt 1198 (by decide +kernel) rfl, wi_9, ⟨by decide, by decide, by decide +kernel⟩, rfl, rfl⟩, xt 1196 (by decide +kernel) rfl, xt 1197 (by decide +kernel) rfl⟩
theorem cf_X9_takeRows : xcfV M_X9_takeRows 2 := ⟨⟨xt 1214 (by decide +kernel) rfl, wi_9, ⟨by decide, by decide, by decide +kernel⟩, rfl, rfl⟩, xt 1213 (by decide +kernel) rfl, xp (by decide +kernel) rfl⟩
theorem cf_X9_far : xcfV M_X9_far 2 := ⟨⟨xt 1210 (by decide +kernel) rfl, wi_9, ⟨by decide, by decide, by decide +kernel⟩, rfl, rfl⟩, xt 1208 (by decide +kernel) rfl, xt 1209 (by decide +kernel) rfl⟩
theorem cf_X9_findFarTo : xcfV M_X9_findFarTo 1 := ⟨⟨xt 1223 (by decide +kernel) rfl, wi_9, ⟨by decide, by decide, by decide +kernel⟩, rfl, rfl⟩, xt 1222 (by decide +kernel) rfl, xp (by decide +kernel) rfl⟩
theorem cf_X9_way : xcfV M_X9_way 3 := ⟨⟨xt 1218 (by decide +kernel) rfl, wi_9, ⟨by decide, by decide, by decide +kernel⟩, rfl, rfl⟩, xt 1216 (by decide +kernel) rfl, xt 1217 (by decide +kernel) rfl⟩
theorem cf_X9_reach : xcfV M_X9_reach 1 := ⟨⟨xt 1227 (by decide +kernel) rfl, wi_9, ⟨by decide, by decide, by decide +kernel⟩, rfl, rfl⟩, xt 1225 (by decide +kernel) rfl, xt 1226 (by decide +kernel) rfl⟩
theorem cf_X9_toGroup : xcfV M_X9_toGroup 1 := ⟨⟨xt 1236 (by decide +kernel) rfl, wi_9, ⟨by decide, by decide, by decide +kernel⟩, rfl, rfl⟩, xt 1235 (by decide +kernel) rfl, xp (by decide +kernel) rfl⟩
theorem cf_X9_made : xcfV M_X9_made 2 := ⟨⟨xt 1241 (by decide +kernel) rfl, wi_9, ⟨by decide, by decide, by decide +kernel⟩, rfl, rfl⟩, xt 1240 (by decide +kernel) rfl, xp (by decide +kernel) rfl⟩
theorem cf_X9_group : xcfV M_X9_group 1 := ⟨⟨xt 1232 (by decide +kernel) rfl, wi_9, ⟨by decide, by decide, by decide +kernel⟩, rfl, rfl⟩, xt 1230 (by decide +kernel) rfl, xt 1231 (by decide +kernel) rfl⟩
theorem cf_X9_takeShort : xcfV M_X9_takeShort 1 := ⟨⟨xt 1250 (by decide +kernel) rfl, wi_9, ⟨by decide, by decide, by decide +kernel⟩, rfl, rfl⟩, xt 1249 (by decide +kernel) rfl, xp (by decide +kernel) rfl⟩
theorem cf_X9_growth : xcfV M_X9_growth 1 := ⟨⟨xt 1246 (by decide +kernel) rfl, wi_9, ⟨by decide, by decide, by decide +kernel⟩, rfl, rfl⟩, xt 1244 (by decide +kernel) rfl, xt 1245 (by decide +kernel) rfl⟩
theorem cf_X9_findLaw : xcfV M_X9_findLaw 1 := ⟨⟨xt 1259 (by decide +kernel) rfl, wi_9, ⟨by decide, by decide, by decide +kernel⟩, rfl, rfl⟩, xt 1258 (by decide +kernel) rfl, xp (by decide +kernel) rfl⟩
theorem cf_X9_laws : xcfV M_X9_laws 1 := ⟨⟨xt 1255 (by decide +kernel) rfl, wi_9, ⟨by decide, by decide, by decide +kernel⟩, rfl, rfl⟩, xt 1253 (by decide +kernel) rfl, xt 1254 (by decide +kernel) rfl⟩
theorem cf_X9_law : xcfV M_X9_law 3 := ⟨⟨xt 1263 (by decide +kernel) rfl, wi_9, ⟨by decide, by decide, by decide +kernel⟩, rfl, rfl⟩, xt 1261 (by decide +kernel) rfl, xt 1262 (by decide +kernel) rfl⟩
theorem cf_X9_falls : xcfV M_X9_falls 1 := ⟨⟨xt 1279 (by decide +kernel) rfl, wi_9, ⟨by decide, by decide, by decide +kernel⟩, rfl, rfl⟩, xt 1278 (by decide +kernel) rfl, xp (by decide +kernel) rfl⟩
theorem cf_X9_beginFall : xcfV M_X9_beginFall 0 := ⟨⟨xt 1271 (by decide +kernel) rfl, wi_9, ⟨by decide, by decide, by decide +kernel⟩, rfl, rfl⟩, xt 1270 (by decide +kernel) rfl, xp (by decide +kernel) rfl⟩
theorem cf_X9_fallsAll : xcfV M_X9_fallsAll 1 := ⟨⟨xt 1275 (by decide +kernel) rfl, wi_9, ⟨by decide, by decide, by decide +kernel⟩, rfl, rfl⟩, xt 1274 (by decide +kernel) rfl, xp (by decide +kernel) rfl⟩
theorem cf_X9_fall : xcfV M_X9_fall 1 := ⟨⟨xt 1267 (by decide +kernel) rfl, wi_9, ⟨by decide, by decide, by decide +kernel⟩, rfl, rfl⟩, xt 1265 (by decide +kernel) rfl, xt 1266 (by decide +kernel) rfl⟩
theorem cf_X9_fallen : xcfV M_X9_fallen 3 := ⟨⟨xt 1283 (by decide +kernel) rfl, wi_9, ⟨by decide, by decide, by decide +kernel⟩, rfl, rfl⟩, xt 1281 (by decide +kernel) rfl, xt 1282 (by decide +kernel) rfl⟩
theorem cf_J9_max_7cf53 : xcfS M_J9_max_7cf53 2 := ⟨⟨xt 677 (by decide +kernel) rfl, wi_J9, ⟨by decide, by decide, by decide +kernel⟩, rfl, rfl⟩, xt 676 (by decide +kernel) rfl⟩
theorem cf_J9_max_f86c9 : xcfS M_J9_max_f86c9 2 := ⟨⟨xt 683 (by decide +kernel) rfl, wi_J9, ⟨by decide, by decide, by decide +kernel⟩, rfl, rfl⟩, xt 682 (by decide +kernel) rfl⟩
theorem cf_J9_min_7cf53 : xcfS M_J9_min_7cf53 2 := ⟨⟨xt 824 (by decide +kernel) rfl, wi_J9, ⟨by decide, by decide, by decide +kernel⟩, rfl, rfl⟩, xt 823 (by decide +kernel) rfl⟩
theorem cf_J7_fill_53178 : xcfS M_J7_fill_53178 2 := ⟨⟨xt 343 (by decide +kernel) rfl, wi_J7, ⟨by decide, by decide, by decide +kernel⟩, rfl, rfl⟩, xt 342 (by decide +kernel) rfl⟩
theorem ml_8_66 : Cond.methodLink RX8 66 yX8_isSheet ∈ xw := xt 334 (by decide +kernel) rfl
theorem ml_8_70 : Cond.methodLink RX8 70 yX5_lay ∈ xw := xt 337 (by decide +kernel) rfl
theorem ml_5_15 : Cond.methodLink RX5 15 yJ7_fill_53178 ∈ xw := xt 341 (by decide +kernel) rfl
theorem ml_8_78 : Cond.methodLink RX8 78 yX5_hasNumber ∈ xw := xt 348 (by decide +kernel) rfl
theorem ml_8_81 : Cond.methodLink RX8 81 yX5_write ∈ xw := xt 352 (by decide +kernel) rfl
theorem ml_8_88 : Cond.methodLink RX8 88 yX3_restart ∈ xw := xt 369 (by decide +kernel) rfl
theorem ml_3_44 : Cond.methodLink RX3 44 yX3_refresh ∈ xw := xt 373 (by decide +kernel) rfl
theorem ml_3_63 : Cond.methodLink RX3 63 yX3_goals ∈ xw := xt 377 (by decide +kernel) rfl
theorem ml_3_67 : Cond.methodLink RX3 67 yX3_writesUnlike ∈ xw := xt 381 (by decide +kernel) rfl
theorem ml_3_70 : Cond.methodLink RX3 70 yX3_listMarks ∈ xw := xt 385 (by decide +kernel) rfl
theorem ml_3_73 : Cond.methodLink RX3 73 yX3_isBack ∈ xw := xt 389 (by decide +kernel) rfl
theorem ml_3_76 : Cond.methodLink RX3 76 yX3_wireMarks ∈ xw := xt 393 (by decide +kernel) rfl
theorem ml_8_92 : Cond.methodLink RX8 92 yX8_forgetAnswers ∈ xw := xt 397 (by decide +kernel) rfl
theorem ml_8_293 : Cond.methodLink RX8 293 yX2_forget ∈ xw := xt 401 (by decide +kernel) rfl
theorem ml_8_296 : Cond.methodLink RX8 296 yX6_forget ∈ xw := xt 405 (by decide +kernel) rfl
theorem ml_8_95 : Cond.methodLink RX8 95 yX7_empty ∈ xw := xt 409 (by decide +kernel) rfl
theorem ml_8_98 : Cond.methodLink RX8 98 yX3_canRead ∈ xw := xt 417 (by decide +kernel) rfl
theorem ml_3_47 : Cond.methodLink RX3 47 yX5_hasPair ∈ xw := xt 421 (by decide +kernel) rfl
theorem ml_3_56 : Cond.methodLink RX3 56 yX3_isLetter ∈ xw := xt 425 (by decide +kernel) rfl
theorem ml_8_106 : Cond.methodLink RX8 106 yX3_read ∈ xw := xt 432 (by decide +kernel) rfl
theorem ml_8_110 : Cond.methodLink RX8 110 yX3_isState ∈ xw := xt 440 (by decide +kernel) rfl
theorem ml_8_113 : Cond.methodLink RX8 113 yX3_isLetter ∈ xw := xt 444 (by decide +kernel) rfl
theorem ml_8_116 : Cond.methodLink RX8 116 yX8_isGoal ∈ xw := xt 445 (by decide +kernel) rfl
theorem ml_8_119 : Cond.methodLink RX8 119 yX3_rewire ∈ xw := xt 446 (by decide +kernel) rfl
theorem ml_8_123 : Cond.methodLink RX8 123 yX8_hasLostWayBack ∈ xw := xt 450 (by decide +kernel) rfl
theorem ml_8_166 : Cond.methodLink RX8 166 yX7_mark ∈ xw := xt 454 (by decide +kernel) rfl
theorem ml_8_127 : Cond.methodLink RX8 127 yX3_isBack ∈ xw := xt 458 (by decide +kernel) rfl
theorem ml_8_145 : Cond.methodLink RX8 145 yX8_isSpot ∈ xw := xt 471 (by decide +kernel) rfl
theorem ml_8_148 : Cond.methodLink RX8 148 yX8_refusalOfGiven ∈ xw := xt 474 (by decide +kernel) rfl
theorem ml_8_152 : Cond.methodLink RX8 152 yX8_markOf ∈ xw := xt 478 (by decide +kernel) rfl
theorem ml_8_156 : Cond.methodLink RX8 156 yX7_push ∈ xw := xt 481 (by decide +kernel) rfl
theorem ml_8_159 : Cond.methodLink RX8 159 yX8_join ∈ xw := xt 485 (by decide +kernel) rfl
theorem ml_8_182 : Cond.methodLink RX8 182 yX7_copy ∈ xw := xt 489 (by decide +kernel) rfl
theorem ml_8_175 : Cond.methodLink RX8 175 yX8_bring ∈ xw := xt 493 (by decide +kernel) rfl
theorem ml_8_169 : Cond.methodLink RX8 169 yX8_tokenOf ∈ xw := xt 509 (by decide +kernel) rfl
theorem ml_8_172 : Cond.methodLink RX8 172 yX8_hasBackStates ∈ xw := xt 520 (by decide +kernel) rfl
theorem ml_8_179 : Cond.methodLink RX8 179 yX3_rowLength ∈ xw := xt 528 (by decide +kernel) rfl
theorem ml_3_80 : Cond.methodLink RX3 80 yX3_hasLetters ∈ xw := xt 532 (by decide +kernel) rfl
theorem ml_8_186 : Cond.methodLink RX8 186 yX8_walkDown ∈ xw := xt 536 (by decide +kernel) rfl
theorem ml_8_301 : Cond.methodLink RX8 301 yX7_descend ∈ xw := xt 540 (by decide +kernel) rfl
theorem ml_7_19 : Cond.methodLink RX7 19 yX7_empty ∈ xw := xt 544 (by decide +kernel) rfl
theorem ml_7_31 : Cond.methodLink RX7 31 yX7_push ∈ xw := xt 545 (by decide +kernel) rfl
theorem ml_8_190 : Cond.methodLink RX8 190 yX8_gather ∈ xw := xt 554 (by decide +kernel) rfl
theorem ml_8_304 : Cond.methodLink RX8 304 yX4_reset ∈ xw := xt 558 (by decide +kernel) rfl
theorem ml_4_62 : Cond.methodLink RX4 62 yX0_clear ∈ xw := xt 562 (by decide +kernel) rfl
theorem ml_0_28 : Cond.methodLink RX0 28 yJ7_fill_53178 ∈ xw := xt 567 (by decide +kernel) rfl
theorem ml_8_307 : Cond.methodLink RX8 307 yX4_take ∈ xw := xt 568 (by decide +kernel) rfl
theorem ml_4_83 : Cond.methodLink RX4 83 yX0_add ∈ xw := xt 572 (by decide +kernel) rfl
theorem ml_0_34 : Cond.methodLink RX0 34 yX0_slotOf ∈ xw := xt 576 (by decide +kernel) rfl
theorem ml_4_86 : Cond.methodLink RX4 86 yX4_followParts ∈ xw := xt 581 (by decide +kernel) rfl
theorem ml_4_96 : Cond.methodLink RX4 96 yX4_load ∈ xw := xt 585 (by decide +kernel) rfl
theorem ml_4_100 : Cond.methodLink RX4 100 yX7_descend ∈ xw := xt 589 (by decide +kernel) rfl
theorem ml_8_194 : Cond.methodLink RX8 194 yX4_classify ∈ xw := xt 590 (by decide +kernel) rfl
theorem ml_4_104 : Cond.methodLink RX4 104 yX4_keepRound ∈ xw := xt 594 (by decide +kernel) rfl
theorem ml_4_107 : Cond.methodLink RX4 107 yX4_refine ∈ xw := xt 601 (by decide +kernel) rfl
theorem ml_8_197 : Cond.methodLink RX8 197 yX4_indexOf ∈ xw := xt 605 (by decide +kernel) rfl
theorem ml_4_72 : Cond.methodLink RX4 72 yX0_find ∈ xw := xt 609 (by decide +kernel) rfl
theorem ml_8_201 : Cond.methodLink RX8 201 yX4_areAlike ∈ xw := xt 613 (by decide +kernel) rfl
theorem ml_8_205 : Cond.methodLink RX8 205 yX4_partingRow ∈ xw := xt 621 (by decide +kernel) rfl
theorem ml_4_116 : Cond.methodLink RX4 116 yX4_arePartedBy ∈ xw := xt 625 (by decide +kernel) rfl
theorem ml_4_120 : Cond.methodLink RX4 120 yX4_firstPartingLetter ∈ xw := xt 629 (by decide +kernel) rfl
theorem ml_4_124 : Cond.methodLink RX4 124 yX4_firstUnlikeLetter ∈ xw := xt 633 (by decide +kernel) rfl
theorem ml_8_220 : Cond.methodLink RX8 220 yX3_power ∈ xw := xt 649 (by decide +kernel) rfl
theorem ml_8_223 : Cond.methodLink RX8 223 yX2_build ∈ xw := xt 653 (by decide +kernel) rfl
theorem ml_2_54 : Cond.methodLink RX2 54 yX2_buildBranch ∈ xw := xt 657 (by decide +kernel) rfl
theorem ml_8_227 : Cond.methodLink RX8 227 yX2_roundsToRest ∈ xw := xt 661 (by decide +kernel) rfl
theorem ml_2_68 : Cond.methodLink RX2 68 yX2_forgetRows ∈ xw := xt 665 (by decide +kernel) rfl
theorem ml_2_37 : Cond.methodLink RX2 37 yJ7_fill_53178 ∈ xw := xt 669 (by decide +kernel) rfl
theorem ml_2_75 : Cond.methodLink RX2 75 yX2_ringLength ∈ xw := xt 670 (by decide +kernel) rfl
theorem ml_2_90 : Cond.methodLink RX2 90 yX7_mark ∈ xw := xt 674 (by decide +kernel) rfl
theorem ml_2_94 : Cond.methodLink RX2 94 yJ9_max_7cf53 ∈ xw := xt 675 (by decide +kernel) rfl
theorem ml_2_79 : Cond.methodLink RX2 79 yX2_commonDivisor ∈ xw := xt 678 (by decide +kernel) rfl
theorem ml_2_100 : Cond.methodLink RX2 100 yJ9_max_f86c9 ∈ xw := xt 681 (by decide +kernel) rfl
theorem ml_8_230 : Cond.methodLink RX8 230 yX2_countBackOrbits ∈ xw := xt 689 (by decide +kernel) rfl
theorem ml_2_71 : Cond.methodLink RX2 71 yX2_spread ∈ xw := xt 693 (by decide +kernel) rfl
theorem ml_2_64 : Cond.methodLink RX2 64 yX3_isBack ∈ xw := xt 697 (by decide +kernel) rfl
theorem ml_8_234 : Cond.methodLink RX8 234 yX8_levelOf ∈ xw := xt 702 (by decide +kernel) rfl
theorem ml_8_237 : Cond.methodLink RX8 237 yX8_walkFrom ∈ xw := xt 706 (by decide +kernel) rfl
theorem ml_8_311 : Cond.methodLink RX8 311 yX2_forgetRows ∈ xw := xt 710 (by decide +kernel) rfl
theorem ml_8_243 : Cond.methodLink RX8 243 yX3_rowIndex ∈ xw := xt 711 (by decide +kernel) rfl
theorem ml_8_314 : Cond.methodLink RX8 314 yX2_spread ∈ xw := xt 715 (by decide +kernel) rfl
theorem ml_8_246 : Cond.methodLink RX8 246 yX8_far ∈ xw := xt 724 (by decide +kernel) rfl
theorem ml_8_249 : Cond.methodLink RX8 249 yX2_markOfMove ∈ xw := xt 725 (by decide +kernel) rfl
theorem ml_8_256 : Cond.methodLink RX8 256 yX1_begin ∈ xw := xt 737 (by decide +kernel) rfl
theorem ml_1_31 : Cond.methodLink RX1 31 yX0_clear ∈ xw := xt 741 (by decide +kernel) rfl
theorem ml_1_34 : Cond.methodLink RX1 34 yX0_add ∈ xw := xt 742 (by decide +kernel) rfl
theorem ml_8_259 : Cond.methodLink RX8 259 yX2_packed ∈ xw := xt 743 (by decide +kernel) rfl
theorem ml_8_263 : Cond.methodLink RX8 263 yX1_bringIn ∈ xw := xt 747 (by decide +kernel) rfl
theorem ml_1_38 : Cond.methodLink RX1 38 yX0_find ∈ xw := xt 751 (by decide +kernel) rfl
theorem ml_1_44 : Cond.methodLink RX1 44 yJ9_max_7cf53 ∈ xw := xt 752 (by decide +kernel) rfl
theorem ml_1_53 : Cond.methodLink RX1 53 yX1_behind ∈ xw := xt 753 (by decide +kernel) rfl
theorem ml_1_57 : Cond.methodLink RX1 57 yX1_addBlock ∈ xw := xt 758 (by decide +kernel) rfl
theorem ml_8_270 : Cond.methodLink RX8 270 yX6_gatherWithin ∈ xw := xt 766 (by decide +kernel) rfl
theorem ml_6_57 : Cond.methodLink RX6 57 yX6_enterWithin ∈ xw := xt 770 (by decide +kernel) rfl
theorem ml_6_68 : Cond.methodLink RX6 68 yX6_beginWithEmpty ∈ xw := xt 774 (by decide +kernel) rfl
theorem ml_6_83 : Cond.methodLink RX6 83 yX4_reset ∈ xw := xt 778 (by decide +kernel) rfl
theorem ml_6_86 : Cond.methodLink RX6 86 yX7_empty ∈ xw := xt 779 (by decide +kernel) rfl
theorem ml_6_89 : Cond.methodLink RX6 89 yX4_enter ∈ xw := xt 780 (by decide +kernel) rfl
theorem ml_6_80 : Cond.methodLink RX6 80 yX6_extend ∈ xw := xt 784 (by decide +kernel) rfl
theorem ml_6_96 : Cond.methodLink RX6 96 yX4_load ∈ xw := xt 788 (by decide +kernel) rfl
theorem ml_6_106 : Cond.methodLink RX6 106 yX7_push ∈ xw := xt 789 (by decide +kernel) rfl
theorem ml_6_61 : Cond.methodLink RX6 61 yX4_followParts ∈ xw := xt 790 (by decide +kernel) rfl
theorem ml_6_65 : Cond.methodLink RX6 65 yX4_classify ∈ xw := xt 791 (by decide +kernel) rfl
theorem ml_8_274 : Cond.methodLink RX8 274 yX6_countLaws ∈ xw := xt 796 (by decide +kernel) rfl
theorem ml_6_114 : Cond.methodLink RX6 114 yX6_isLaw ∈ xw := xt 800 (by decide +kernel) rfl
theorem ml_6_110 : Cond.methodLink RX6 110 yX4_areAlike ∈ xw := xt 804 (by decide +kernel) rfl
theorem ml_8_277 : Cond.methodLink RX8 277 yX6_findLaw ∈ xw := xt 809 (by decide +kernel) rfl
theorem ml_8_280 : Cond.methodLink RX8 280 yX4_load ∈ xw := xt 813 (by decide +kernel) rfl
theorem ml_8_284 : Cond.methodLink RX8 284 yX6_gatherFallen ∈ xw := xt 818 (by decide +kernel) rfl
theorem ml_6_117 : Cond.methodLink RX6 117 yJ9_min_7cf53 ∈ xw := xt 822 (by decide +kernel) rfl
theorem ml_6_123 : Cond.methodLink RX6 123 yX6_lookAtParts ∈ xw := xt 825 (by decide +kernel) rfl
theorem ml_6_134 : Cond.methodLink RX6 134 yX7_copy ∈ xw := xt 829 (by decide +kernel) rfl
theorem ml_6_138 : Cond.methodLink RX6 138 yX7_descend ∈ xw := xt 830 (by decide +kernel) rfl
theorem ml_6_142 : Cond.methodLink RX6 142 yX4_take ∈ xw := xt 831 (by decide +kernel) rfl
theorem ml_6_127 : Cond.methodLink RX6 127 yX6_addUnlike ∈ xw := xt 832 (by decide +kernel) rfl
theorem ml_6_146 : Cond.methodLink RX6 146 yJ7_fill_53178 ∈ xw := xt 836 (by decide +kernel) rfl
theorem ml_9_105 : Cond.methodLink RX9 105 yX9_isSheet ∈ xw := xt 979 (by decide +kernel) rfl
theorem ml_9_99 : Cond.methodLink RX9 99 yX9_in ∈ xw := xt 983 (by decide +kernel) rfl
theorem ml_9_124 : Cond.methodLink RX9 124 yX9_isBack ∈ xw := xt 1015 (by decide +kernel) rfl
theorem ml_9_121 : Cond.methodLink RX9 121 yX9_isFair ∈ xw := xt 1019 (by decide +kernel) rfl
theorem ml_9_130 : Cond.methodLink RX9 130 yX9_findTokens ∈ xw := xt 1031 (by decide +kernel) rfl
theorem ml_9_133 : Cond.methodLink RX9 133 yX9_isWhole ∈ xw := xt 1035 (by decide +kernel) rfl
theorem ml_9_137 : Cond.methodLink RX9 137 yX9_isSpot ∈ xw := xt 1043 (by decide +kernel) rfl
theorem ml_9_140 : Cond.methodLink RX9 140 yX9_copy ∈ xw := xt 1046 (by decide +kernel) rfl
theorem ml_9_144 : Cond.methodLink RX9 144 yX9_add ∈ xw := xt 1050 (by decide +kernel) rfl
theorem ml_9_159 : Cond.methodLink RX9 159 yX9_takeRow ∈ xw := xt 1078 (by decide +kernel) rfl
theorem ml_9_163 : Cond.methodLink RX9 163 yX9_rewrite ∈ xw := xt 1082 (by decide +kernel) rfl
theorem ml_9_153 : Cond.methodLink RX9 153 yX9_step ∈ xw := xt 1086 (by decide +kernel) rfl
theorem ml_9_167 : Cond.methodLink RX9 167 yX9_rowNumber ∈ xw := xt 1090 (by decide +kernel) rfl
theorem ml_9_175 : Cond.methodLink RX9 175 yX9_partAtRow ∈ xw := xt 1098 (by decide +kernel) rfl
theorem ml_9_171 : Cond.methodLink RX9 171 yX9_partAt ∈ xw := xt 1102 (by decide +kernel) rfl
theorem ml_9_215 : Cond.methodLink RX9 215 yX9_takeTwo ∈ xw := xt 1110 (by decide +kernel) rfl
theorem ml_9_200 : Cond.methodLink RX9 200 yX9_beginHeap ∈ xw := xt 1114 (by decide +kernel) rfl
theorem ml_9_191 : Cond.methodLink RX9 191 yX9_toHeap ∈ xw := xt 1118 (by decide +kernel) rfl
theorem ml_9_181 : Cond.methodLink RX9 181 yX9_findInHeap ∈ xw := xt 1122 (by decide +kernel) rfl
theorem ml_9_209 : Cond.methodLink RX9 209 yX9_grow ∈ xw := xt 1126 (by decide +kernel) rfl
theorem ml_9_188 : Cond.methodLink RX9 188 yX9_fromHeap ∈ xw := xt 1130 (by decide +kernel) rfl
theorem ml_9_212 : Cond.methodLink RX9 212 yX9_partAll ∈ xw := xt 1134 (by decide +kernel) rfl
theorem ml_9_197 : Cond.methodLink RX9 197 yX9_partOnce ∈ xw := xt 1138 (by decide +kernel) rfl
theorem ml_9_194 : Cond.methodLink RX9 194 yX9_isSameNow ∈ xw := xt 1142 (by decide +kernel) rfl
theorem ml_9_219 : Cond.methodLink RX9 219 yX9_isParted ∈ xw := xt 1150 (by decide +kernel) rfl
theorem ml_9_223 : Cond.methodLink RX9 223 yX9_rowsOf ∈ xw := xt 1166 (by decide +kernel) rfl
theorem ml_9_235 : Cond.methodLink RX9 235 yX9_isTokenBack ∈ xw := xt 1170 (by decide +kernel) rfl
theorem ml_9_229 : Cond.methodLink RX9 229 yX9_rowAt ∈ xw := xt 1174 (by decide +kernel) rfl
theorem ml_9_232 : Cond.methodLink RX9 232 yX9_placeNow ∈ xw := xt 1178 (by decide +kernel) rfl
theorem ml_9_238 : Cond.methodLink RX9 238 yX9_common ∈ xw := xt 1182 (by decide +kernel) rfl
theorem ml_9_244 : Cond.methodLink RX9 244 yX9_findLevel ∈ xw := xt 1190 (by decide +kernel) rfl
theorem ml_9_247 : Cond.methodLink RX9 247 yJ9_min_7cf53 ∈ xw := xt 1194 (by decide +kernel) rfl
theorem ml_9_255 : Cond.methodLink RX9 255 yX9_takeLevel ∈ xw := xt 1199 (by decide +kernel) rfl
theorem ml_9_258 : Cond.methodLink RX9 258 yX9_findFar ∈ xw := xt 1203 (by decide +kernel) rfl
theorem ml_9_264 : Cond.methodLink RX9 264 yX9_takeRows ∈ xw := xt 1211 (by decide +kernel) rfl
theorem ml_9_267 : Cond.methodLink RX9 267 yX9_far ∈ xw := xt 1219 (by decide +kernel) rfl
theorem ml_9_270 : Cond.methodLink RX9 270 yX9_findFarTo ∈ xw := xt 1220 (by decide +kernel) rfl
theorem ml_9_273 : Cond.methodLink RX9 273 yJ9_max_7cf53 ∈ xw := xt 1228 (by decide +kernel) rfl
theorem ml_9_283 : Cond.methodLink RX9 283 yX9_toGroup ∈ xw := xt 1233 (by decide +kernel) rfl
theorem ml_9_287 : Cond.methodLink RX9 287 yX9_made ∈ xw := xt 1238 (by decide +kernel) rfl
theorem ml_9_293 : Cond.methodLink RX9 293 yX9_takeShort ∈ xw := xt 1247 (by decide +kernel) rfl
theorem ml_9_296 : Cond.methodLink RX9 296 yX9_findLaw ∈ xw := xt 1256 (by decide +kernel) rfl
theorem ml_9_305 : Cond.methodLink RX9 305 yX9_beginFall ∈ xw := xt 1268 (by decide +kernel) rfl
theorem ml_9_308 : Cond.methodLink RX9 308 yX9_fallsAll ∈ xw := xt 1272 (by decide +kernel) rfl
theorem ml_9_302 : Cond.methodLink RX9 302 yX9_falls ∈ xw := xt 1276 (by decide +kernel) rfl
theorem ml_9_311 : Cond.methodLink RX9 311 yX9_fall ∈ xw := xt 1284 (by decide +kernel) rfl
theorem fk_7_9 : xlk RX7 9 7 0 := ⟨_, rfl, by decide, xt 31 (by decide +kernel) rfl⟩
theorem fp_7_9 : xlp RX7 9 7 0 .long := ⟨_, rfl, by decide, xt 31 (by decide +kernel) rfl, rfl, by decide +kernel⟩
theorem fk_4_65 : xlk RX4 65 7 0 := ⟨_, rfl, by decide, xt 32 (by decide +kernel) rfl⟩
theorem fp_4_65 : xlp RX4 65 7 0 .long := ⟨_, rfl, by decide, xt 32 (by decide +kernel) rfl, rfl, by decide +kernel⟩
theorem fk_8_297 : xlk RX8 297 7 0 := ⟨_, rfl, by decide, xt 33 (by decide +kernel) rfl⟩
theorem fp_8_297 : xlp RX8 297 7 0 .long := ⟨_, rfl, by decide, xt 33 (by decide +kernel) rfl, rfl, by decide +kernel⟩
theorem fk_7_15 : xlk RX7 15 7 1 := ⟨_, rfl, by decide, xt 34 (by decide +kernel) rfl⟩
theorem fp_7_15 : xlp RX7 15 7 1 .int := ⟨_, rfl, by decide, xt 34 (by decide +kernel) rfl, rfl, by decide +kernel⟩
theorem fk_4_69 : xlk RX4 69 7 1 := ⟨_, rfl, by decide, xt 35 (by decide +kernel) rfl⟩
theorem fp_4_69 : xlp RX4 69 7 1 .int := ⟨_, rfl, by decide, xt 35 (by decide +kernel) rfl, rfl, by decide +kernel⟩
theorem fk_6_100 : xlk RX6 100 7 1 := ⟨_, rfl, by decide, xt 36 (by decide +kernel) rfl⟩
theorem fp_6_100 : xlp RX6 100 7 1 .int := ⟨_, rfl, by decide, xt 36 (by decide +kernel) rfl, rfl, by decide +kernel⟩
theorem fk_2_85 : xlk RX2 85 7 1 := ⟨_, rfl, by decide, xt 37 (by decide +kernel) rfl⟩
theorem fp_2_85 : xlp RX2 85 7 1 .int := ⟨_, rfl, by decide, xt 37 (by decide +kernel) rfl, rfl, by decide +kernel⟩
theorem fk_8_163 : xlk RX8 163 7 1 := ⟨_, rfl, by decide, xt 38 (by decide +kernel) rfl⟩
theorem fp_8_163 : xlp RX8 163 7 1 .int := ⟨_, rfl, by decide, xt 38 (by decide +kernel) rfl, rfl, by decide +kernel⟩
theorem fk_3_9 : xlk RX3 9 3 0 := ⟨_, rfl, by decide, xt 51 (by decide +kernel) rfl⟩
theorem fk_8_130 : xlk RX8 130 3 0 := ⟨_, rfl, by decide, xt 52 (by decide +kernel) rfl⟩
theorem fk_3_15 : xlk RX3 15 3 1 := ⟨_, rfl, by decide, xt 53 (by decide +kernel) rfl⟩
theorem fk_8_133 : xlk RX8 133 3 1 := ⟨_, rfl, by decide, xt 54 (by decide +kernel) rfl⟩
theorem fk_3_18 : xlk RX3 18 3 2 := ⟨_, rfl, by decide, xt 55 (by decide +kernel) rfl⟩
theorem fk_2_58 : xlk RX2 58 3 2 := ⟨_, rfl, by decide, xt 56 (by decide +kernel) rfl⟩
theorem fk_7_22 : xlk RX7 22 3 2 := ⟨_, rfl, by decide, xt 57 (by decide +kernel) rfl⟩
theorem fk_3_21 : xlk RX3 21 3 3 := ⟨_, rfl, by decide, xt 58 (by decide +kernel) rfl⟩
theorem fk_2_61 : xlk RX2 61 3 3 := ⟨_, rfl, by decide, xt 59 (by decide +kernel) rfl⟩
theorem fk_7_28 : xlk RX7 28 3 3 := ⟨_, rfl, by decide, xt 60 (by decide +kernel) rfl⟩
theorem fk_3_24 : xlk RX3 24 3 4 := ⟨_, rfl, by decide, xt 61 (by decide +kernel) rfl⟩
theorem fk_2_51 : xlk RX2 51 3 4 := ⟨_, rfl, by decide, xt 62 (by decide +kernel) rfl⟩
theorem fk_6_103 : xlk RX6 103 3 4 := ⟨_, rfl, by decide, xt 63 (by decide +kernel) rfl⟩
theorem fk_3_27 : xlk RX3 27 3 5 := ⟨_, rfl, by decide, xt 64 (by decide +kernel) rfl⟩
theorem fp_3_27 : xlp RX3 27 3 5 .int := ⟨_, rfl, by decide, xt 64 (by decide +kernel) rfl, rfl, by decide +kernel⟩
theorem fk_2_48 : xlk RX2 48 3 5 := ⟨_, rfl, by decide, xt 65 (by decide +kernel) rfl⟩
theorem fp_2_48 : xlp RX2 48 3 5 .int := ⟨_, rfl, by decide, xt 65 (by decide +kernel) rfl, rfl, by decide +kernel⟩
theorem fk_6_93 : xlk RX6 93 3 5 := ⟨_, rfl, by decide, xt 66 (by decide +kernel) rfl⟩
theorem fp_6_93 : xlp RX6 93 3 5 .int := ⟨_, rfl, by decide, xt 66 (by decide +kernel) rfl, rfl, by decide +kernel⟩
theorem fk_8_142 : xlk RX8 142 3 5 := ⟨_, rfl, by decide, xt 67 (by decide +kernel) rfl⟩
theorem fp_8_142 : xlp RX8 142 3 5 .int := ⟨_, rfl, by decide, xt 67 (by decide +kernel) rfl, rfl, by decide +kernel⟩
theorem fk_3_31 : xlk RX3 31 3 6 := ⟨_, rfl, by decide, xt 68 (by decide +kernel) rfl⟩
theorem fp_3_31 : xlp RX3 31 3 6 .int := ⟨_, rfl, by decide, xt 68 (by decide +kernel) rfl, rfl, by decide +kernel⟩
theorem fk_2_43 : xlk RX2 43 3 6 := ⟨_, rfl, by decide, xt 69 (by decide +kernel) rfl⟩
theorem fp_2_43 : xlp RX2 43 3 6 .int := ⟨_, rfl, by decide, xt 69 (by decide +kernel) rfl, rfl, by decide +kernel⟩
theorem fk_4_90 : xlk RX4 90 3 6 := ⟨_, rfl, by decide, xt 70 (by decide +kernel) rfl⟩
theorem fp_4_90 : xlp RX4 90 3 6 .int := ⟨_, rfl, by decide, xt 70 (by decide +kernel) rfl, rfl, by decide +kernel⟩
theorem fk_8_136 : xlk RX8 136 3 6 := ⟨_, rfl, by decide, xt 71 (by decide +kernel) rfl⟩
theorem fp_8_136 : xlp RX8 136 3 6 .int := ⟨_, rfl, by decide, xt 71 (by decide +kernel) rfl, rfl, by decide +kernel⟩
theorem fk_6_131 : xlk RX6 131 3 6 := ⟨_, rfl, by decide, xt 72 (by decide +kernel) rfl⟩
theorem fp_6_131 : xlp RX6 131 3 6 .int := ⟨_, rfl, by decide, xt 72 (by decide +kernel) rfl, rfl, by decide +kernel⟩
theorem fk_3_34 : xlk RX3 34 3 7 := ⟨_, rfl, by decide, xt 73 (by decide +kernel) rfl⟩
theorem fp_3_34 : xlp RX3 34 3 7 .int := ⟨_, rfl, by decide, xt 73 (by decide +kernel) rfl, rfl, by decide +kernel⟩
theorem fk_8_102 : xlk RX8 102 3 7 := ⟨_, rfl, by decide, xt 74 (by decide +kernel) rfl⟩
theorem fp_8_102 : xlp RX8 102 3 7 .int := ⟨_, rfl, by decide, xt 74 (by decide +kernel) rfl, rfl, by decide +kernel⟩
theorem fk_3_37 : xlk RX3 37 3 8 := ⟨_, rfl, by decide, xt 75 (by decide +kernel) rfl⟩
theorem fp_3_37 : xlp RX3 37 3 8 .int := ⟨_, rfl, by decide, xt 75 (by decide +kernel) rfl, rfl, by decide +kernel⟩
theorem fk_3_40 : xlk RX3 40 3 9 := ⟨_, rfl, by decide, xt 76 (by decide +kernel) rfl⟩
theorem fp_3_40 : xlp RX3 40 3 9 .boolean := ⟨_, rfl, by decide, xt 76 (by decide +kernel) rfl, rfl, by decide +kernel⟩
theorem fk_6_52 : xlk RX6 52 3 9 := ⟨_, rfl, by decide, xt 77 (by decide +kernel) rfl⟩
theorem fp_6_52 : xlp RX6 52 3 9 .boolean := ⟨_, rfl, by decide, xt 77 (by decide +kernel) rfl, rfl, by decide +kernel⟩
theorem fk_8_139 : xlk RX8 139 3 9 := ⟨_, rfl, by decide, xt 78 (by decide +kernel) rfl⟩
theorem fp_8_139 : xlp RX8 139 3 9 .boolean := ⟨_, rfl, by decide, xt 78 (by decide +kernel) rfl, rfl, by decide +kernel⟩
theorem fk_2_11 : xlk RX2 11 2 0 := ⟨_, rfl, by decide, xt 106 (by decide +kernel) rfl⟩
theorem fk_2_15 : xlk RX2 15 2 1 := ⟨_, rfl, by decide, xt 107 (by decide +kernel) rfl⟩
theorem fk_2_18 : xlk RX2 18 2 2 := ⟨_, rfl, by decide, xt 108 (by decide +kernel) rfl⟩
theorem fk_2_21 : xlk RX2 21 2 3 := ⟨_, rfl, by decide, xt 109 (by decide +kernel) rfl⟩
theorem fk_8_240 : xlk RX8 240 2 3 := ⟨_, rfl, by decide, xt 110 (by decide +kernel) rfl⟩
theorem fk_2_24 : xlk RX2 24 2 4 := ⟨_, rfl, by decide, xt 111 (by decide +kernel) rfl⟩
theorem fk_8_253 : xlk RX8 253 2 4 := ⟨_, rfl, by decide, xt 112 (by decide +kernel) rfl⟩
theorem fk_2_27 : xlk RX2 27 2 5 := ⟨_, rfl, by decide, xt 113 (by decide +kernel) rfl⟩
theorem fk_2_30 : xlk RX2 30 2 6 := ⟨_, rfl, by decide, xt 114 (by decide +kernel) rfl⟩
theorem fk_2_33 : xlk RX2 33 2 7 := ⟨_, rfl, by decide, xt 115 (by decide +kernel) rfl⟩
theorem fp_2_33 : xlp RX2 33 2 7 .int := ⟨_, rfl, by decide, xt 115 (by decide +kernel) rfl, rfl, by decide +kernel⟩
theorem fk_0_16 : xlk RX0 16 0 0 := ⟨_, rfl, by decide, xt 145 (by decide +kernel) rfl⟩
theorem fk_1_50 : xlk RX1 50 0 0 := ⟨_, rfl, by decide, xt 146 (by decide +kernel) rfl⟩
theorem fk_4_76 : xlk RX4 76 0 0 := ⟨_, rfl, by decide, xt 147 (by decide +kernel) rfl⟩
theorem fk_0_20 : xlk RX0 20 0 1 := ⟨_, rfl, by decide, xt 148 (by decide +kernel) rfl⟩
theorem fk_4_80 : xlk RX4 80 0 1 := ⟨_, rfl, by decide, xt 149 (by decide +kernel) rfl⟩
theorem fk_0_24 : xlk RX0 24 0 2 := ⟨_, rfl, by decide, xt 150 (by decide +kernel) rfl⟩
theorem fk_0_9 : xlk RX0 9 0 3 := ⟨_, rfl, by decide, xt 151 (by decide +kernel) rfl⟩
theorem fp_0_9 : xlp RX0 9 0 3 .int := ⟨_, rfl, by decide, xt 151 (by decide +kernel) rfl, rfl, by decide +kernel⟩
theorem fk_1_41 : xlk RX1 41 0 3 := ⟨_, rfl, by decide, xt 152 (by decide +kernel) rfl⟩
theorem fp_1_41 : xlp RX1 41 0 3 .int := ⟨_, rfl, by decide, xt 152 (by decide +kernel) rfl, rfl, by decide +kernel⟩
theorem fk_6_75 : xlk RX6 75 0 3 := ⟨_, rfl, by decide, xt 153 (by decide +kernel) rfl⟩
theorem fp_6_75 : xlp RX6 75 0 3 .int := ⟨_, rfl, by decide, xt 153 (by decide +kernel) rfl, rfl, by decide +kernel⟩
theorem fk_4_93 : xlk RX4 93 0 3 := ⟨_, rfl, by decide, xt 154 (by decide +kernel) rfl⟩
theorem fp_4_93 : xlp RX4 93 0 3 .int := ⟨_, rfl, by decide, xt 154 (by decide +kernel) rfl, rfl, by decide +kernel⟩
theorem fk_8_212 : xlk RX8 212 0 3 := ⟨_, rfl, by decide, xt 155 (by decide +kernel) rfl⟩
theorem fp_8_212 : xlp RX8 212 0 3 .int := ⟨_, rfl, by decide, xt 155 (by decide +kernel) rfl, rfl, by decide +kernel⟩
theorem fk_0_13 : xlk RX0 13 0 4 := ⟨_, rfl, by decide, xt 156 (by decide +kernel) rfl⟩
theorem fp_0_13 : xlp RX0 13 0 4 .int := ⟨_, rfl, by decide, xt 156 (by decide +kernel) rfl, rfl, by decide +kernel⟩
theorem fk_1_14 : xlk RX1 14 1 0 := ⟨_, rfl, by decide, xt 169 (by decide +kernel) rfl⟩
theorem fk_8_267 : xlk RX8 267 1 0 := ⟨_, rfl, by decide, xt 170 (by decide +kernel) rfl⟩
theorem fk_1_20 : xlk RX1 20 1 1 := ⟨_, rfl, by decide, xt 171 (by decide +kernel) rfl⟩
theorem fk_1_24 : xlk RX1 24 1 2 := ⟨_, rfl, by decide, xt 172 (by decide +kernel) rfl⟩
theorem fp_1_24 : xlp RX1 24 1 2 .int := ⟨_, rfl, by decide, xt 172 (by decide +kernel) rfl, rfl, by decide +kernel⟩
theorem fk_1_28 : xlk RX1 28 1 3 := ⟨_, rfl, by decide, xt 173 (by decide +kernel) rfl⟩
theorem fp_1_28 : xlp RX1 28 1 3 .int := ⟨_, rfl, by decide, xt 173 (by decide +kernel) rfl, rfl, by decide +kernel⟩
theorem fk_4_14 : xlk RX4 14 4 0 := ⟨_, rfl, by decide, xt 193 (by decide +kernel) rfl⟩
theorem fk_6_71 : xlk RX6 71 4 0 := ⟨_, rfl, by decide, xt 194 (by decide +kernel) rfl⟩
theorem fk_8_208 : xlk RX8 208 4 0 := ⟨_, rfl, by decide, xt 195 (by decide +kernel) rfl⟩
theorem fk_4_20 : xlk RX4 20 4 1 := ⟨_, rfl, by decide, xt 196 (by decide +kernel) rfl⟩
theorem fk_4_23 : xlk RX4 23 4 2 := ⟨_, rfl, by decide, xt 197 (by decide +kernel) rfl⟩
theorem fk_4_27 : xlk RX4 27 4 3 := ⟨_, rfl, by decide, xt 198 (by decide +kernel) rfl⟩
theorem fk_4_30 : xlk RX4 30 4 4 := ⟨_, rfl, by decide, xt 199 (by decide +kernel) rfl⟩
theorem fk_6_152 : xlk RX6 152 4 4 := ⟨_, rfl, by decide, xt 200 (by decide +kernel) rfl⟩
theorem fk_4_33 : xlk RX4 33 4 5 := ⟨_, rfl, by decide, xt 201 (by decide +kernel) rfl⟩
theorem fk_4_36 : xlk RX4 36 4 6 := ⟨_, rfl, by decide, xt 202 (by decide +kernel) rfl⟩
theorem fk_4_42 : xlk RX4 42 4 7 := ⟨_, rfl, by decide, xt 203 (by decide +kernel) rfl⟩
theorem fk_4_46 : xlk RX4 46 4 8 := ⟨_, rfl, by decide, xt 204 (by decide +kernel) rfl⟩
theorem fp_4_46 : xlp RX4 46 4 8 .int := ⟨_, rfl, by decide, xt 204 (by decide +kernel) rfl, rfl, by decide +kernel⟩
theorem fk_4_50 : xlk RX4 50 4 9 := ⟨_, rfl, by decide, xt 205 (by decide +kernel) rfl⟩
theorem fp_4_50 : xlp RX4 50 4 9 .int := ⟨_, rfl, by decide, xt 205 (by decide +kernel) rfl, rfl, by decide +kernel⟩
theorem fk_4_53 : xlk RX4 53 4 10 := ⟨_, rfl, by decide, xt 206 (by decide +kernel) rfl⟩
theorem fp_4_53 : xlp RX4 53 4 10 .int := ⟨_, rfl, by decide, xt 206 (by decide +kernel) rfl, rfl, by decide +kernel⟩
theorem fk_4_56 : xlk RX4 56 4 11 := ⟨_, rfl, by decide, xt 207 (by decide +kernel) rfl⟩
theorem fp_4_56 : xlp RX4 56 4 11 .int := ⟨_, rfl, by decide, xt 207 (by decide +kernel) rfl, rfl, by decide +kernel⟩
theorem fk_8_217 : xlk RX8 217 4 11 := ⟨_, rfl, by decide, xt 208 (by decide +kernel) rfl⟩
theorem fp_8_217 : xlp RX8 217 4 11 .int := ⟨_, rfl, by decide, xt 208 (by decide +kernel) rfl, rfl, by decide +kernel⟩
theorem fk_4_59 : xlk RX4 59 4 12 := ⟨_, rfl, by decide, xt 209 (by decide +kernel) rfl⟩
theorem fp_4_59 : xlp RX4 59 4 12 .int := ⟨_, rfl, by decide, xt 209 (by decide +kernel) rfl, rfl, by decide +kernel⟩
theorem fk_6_12 : xlk RX6 12 6 0 := ⟨_, rfl, by decide, xt 247 (by decide +kernel) rfl⟩
theorem fk_8_273 : xlk RX8 273 6 0 := ⟨_, rfl, by decide, xt 248 (by decide +kernel) rfl⟩
theorem fk_6_21 : xlk RX6 21 6 1 := ⟨_, rfl, by decide, xt 249 (by decide +kernel) rfl⟩
theorem fk_6_25 : xlk RX6 25 6 2 := ⟨_, rfl, by decide, xt 250 (by decide +kernel) rfl⟩
theorem fk_6_28 : xlk RX6 28 6 3 := ⟨_, rfl, by decide, xt 251 (by decide +kernel) rfl⟩
theorem fk_8_290 : xlk RX8 290 6 3 := ⟨_, rfl, by decide, xt 252 (by decide +kernel) rfl⟩
theorem fk_6_32 : xlk RX6 32 6 4 := ⟨_, rfl, by decide, xt 253 (by decide +kernel) rfl⟩
theorem fk_6_35 : xlk RX6 35 6 5 := ⟨_, rfl, by decide, xt 254 (by decide +kernel) rfl⟩
theorem fk_6_38 : xlk RX6 38 6 6 := ⟨_, rfl, by decide, xt 255 (by decide +kernel) rfl⟩
theorem fp_6_38 : xlp RX6 38 6 6 .int := ⟨_, rfl, by decide, xt 255 (by decide +kernel) rfl, rfl, by decide +kernel⟩
theorem fk_8_287 : xlk RX8 287 6 6 := ⟨_, rfl, by decide, xt 256 (by decide +kernel) rfl⟩
theorem fp_8_287 : xlp RX8 287 6 6 .int := ⟨_, rfl, by decide, xt 256 (by decide +kernel) rfl, rfl, by decide +kernel⟩
theorem fk_6_42 : xlk RX6 42 6 7 := ⟨_, rfl, by decide, xt 257 (by decide +kernel) rfl⟩
theorem fp_6_42 : xlp RX6 42 6 7 .int := ⟨_, rfl, by decide, xt 257 (by decide +kernel) rfl, rfl, by decide +kernel⟩
theorem fk_6_45 : xlk RX6 45 6 8 := ⟨_, rfl, by decide, xt 258 (by decide +kernel) rfl⟩
theorem fp_6_45 : xlp RX6 45 6 8 .int := ⟨_, rfl, by decide, xt 258 (by decide +kernel) rfl, rfl, by decide +kernel⟩
theorem fk_6_48 : xlk RX6 48 6 9 := ⟨_, rfl, by decide, xt 259 (by decide +kernel) rfl⟩
theorem fp_6_48 : xlp RX6 48 6 9 .boolean := ⟨_, rfl, by decide, xt 259 (by decide +kernel) rfl, rfl, by decide +kernel⟩
theorem fk_5_9 : xlk RX5 9 5 0 := ⟨_, rfl, by decide, xt 286 (by decide +kernel) rfl⟩
theorem fk_8_85 : xlk RX8 85 5 0 := ⟨_, rfl, by decide, xt 287 (by decide +kernel) rfl⟩
theorem fk_3_53 : xlk RX3 53 5 0 := ⟨_, rfl, by decide, xt 288 (by decide +kernel) rfl⟩
theorem fk_5_21 : xlk RX5 21 5 1 := ⟨_, rfl, by decide, xt 289 (by decide +kernel) rfl⟩
theorem fp_5_21 : xlp RX5 21 5 1 .boolean := ⟨_, rfl, by decide, xt 289 (by decide +kernel) rfl, rfl, by decide +kernel⟩
theorem fk_8_74 : xlk RX8 74 5 1 := ⟨_, rfl, by decide, xt 290 (by decide +kernel) rfl⟩
theorem fp_8_74 : xlp RX8 74 5 1 .boolean := ⟨_, rfl, by decide, xt 290 (by decide +kernel) rfl, rfl, by decide +kernel⟩
theorem fk_5_25 : xlk RX5 25 5 2 := ⟨_, rfl, by decide, xt 291 (by decide +kernel) rfl⟩
theorem fp_5_25 : xlp RX5 25 5 2 .int := ⟨_, rfl, by decide, xt 291 (by decide +kernel) rfl, rfl, by decide +kernel⟩
theorem fk_5_29 : xlk RX5 29 5 3 := ⟨_, rfl, by decide, xt 292 (by decide +kernel) rfl⟩
theorem fp_5_29 : xlp RX5 29 5 3 .int := ⟨_, rfl, by decide, xt 292 (by decide +kernel) rfl, rfl, by decide +kernel⟩
theorem fk_8_11 : xlk RX8 11 8 0 := ⟨_, rfl, by decide, xt 302 (by decide +kernel) rfl⟩
theorem fk_8_17 : xlk RX8 17 8 1 := ⟨_, rfl, by decide, xt 303 (by decide +kernel) rfl⟩
theorem fk_8_21 : xlk RX8 21 8 2 := ⟨_, rfl, by decide, xt 304 (by decide +kernel) rfl⟩
theorem fk_8_26 : xlk RX8 26 8 3 := ⟨_, rfl, by decide, xt 305 (by decide +kernel) rfl⟩
theorem fk_8_33 : xlk RX8 33 8 4 := ⟨_, rfl, by decide, xt 306 (by decide +kernel) rfl⟩
theorem fk_8_40 : xlk RX8 40 8 5 := ⟨_, rfl, by decide, xt 307 (by decide +kernel) rfl⟩
theorem fk_8_47 : xlk RX8 47 8 6 := ⟨_, rfl, by decide, xt 308 (by decide +kernel) rfl⟩
theorem fk_8_54 : xlk RX8 54 8 7 := ⟨_, rfl, by decide, xt 309 (by decide +kernel) rfl⟩
theorem fk_8_61 : xlk RX8 61 8 8 := ⟨_, rfl, by decide, xt 310 (by decide +kernel) rfl⟩
theorem fk_9_7 : xlk RX9 7 9 0 := ⟨_, rfl, by decide, xt 847 (by decide +kernel) rfl⟩
theorem fk_9_13 : xlk RX9 13 9 1 := ⟨_, rfl, by decide, xt 848 (by decide +kernel) rfl⟩
theorem fk_9_16 : xlk RX9 16 9 2 := ⟨_, rfl, by decide, xt 849 (by decide +kernel) rfl⟩
theorem fk_9_19 : xlk RX9 19 9 3 := ⟨_, rfl, by decide, xt 850 (by decide +kernel) rfl⟩
theorem fp_9_19 : xlp RX9 19 9 3 .int := ⟨_, rfl, by decide, xt 850 (by decide +kernel) rfl, rfl, by decide +kernel⟩
theorem fk_9_116 : xlk RX9 116 9 4 := ⟨_, rfl, by decide, xt 851 (by decide +kernel) rfl⟩
theorem fp_9_116 : xlp RX9 116 9 4 .int := ⟨_, rfl, by decide, xt 851 (by decide +kernel) rfl, rfl, by decide +kernel⟩
theorem fk_9_23 : xlk RX9 23 9 5 := ⟨_, rfl, by decide, xt 852 (by decide +kernel) rfl⟩
theorem fk_9_26 : xlk RX9 26 9 6 := ⟨_, rfl, by decide, xt 853 (by decide +kernel) rfl⟩
theorem fk_9_29 : xlk RX9 29 9 7 := ⟨_, rfl, by decide, xt 854 (by decide +kernel) rfl⟩
theorem fk_9_32 : xlk RX9 32 9 8 := ⟨_, rfl, by decide, xt 855 (by decide +kernel) rfl⟩
theorem fk_9_35 : xlk RX9 35 9 9 := ⟨_, rfl, by decide, xt 856 (by decide +kernel) rfl⟩
theorem fk_9_39 : xlk RX9 39 9 10 := ⟨_, rfl, by decide, xt 857 (by decide +kernel) rfl⟩
theorem fk_9_127 : xlk RX9 127 9 11 := ⟨_, rfl, by decide, xt 858 (by decide +kernel) rfl⟩
theorem fp_9_127 : xlp RX9 127 9 11 .int := ⟨_, rfl, by decide, xt 858 (by decide +kernel) rfl, rfl, by decide +kernel⟩
theorem fk_9_42 : xlk RX9 42 9 12 := ⟨_, rfl, by decide, xt 859 (by decide +kernel) rfl⟩
theorem fk_9_147 : xlk RX9 147 9 13 := ⟨_, rfl, by decide, xt 860 (by decide +kernel) rfl⟩
theorem fp_9_147 : xlp RX9 147 9 13 .int := ⟨_, rfl, by decide, xt 860 (by decide +kernel) rfl, rfl, by decide +kernel⟩
theorem fk_9_150 : xlk RX9 150 9 14 := ⟨_, rfl, by decide, xt 861 (by decide +kernel) rfl⟩
theorem fp_9_150 : xlp RX9 150 9 14 .int := ⟨_, rfl, by decide, xt 861 (by decide +kernel) rfl, rfl, by decide +kernel⟩
theorem fk_9_45 : xlk RX9 45 9 15 := ⟨_, rfl, by decide, xt 862 (by decide +kernel) rfl⟩
theorem fk_9_156 : xlk RX9 156 9 16 := ⟨_, rfl, by decide, xt 863 (by decide +kernel) rfl⟩
theorem fp_9_156 : xlp RX9 156 9 16 .int := ⟨_, rfl, by decide, xt 863 (by decide +kernel) rfl, rfl, by decide +kernel⟩
theorem fk_9_48 : xlk RX9 48 9 17 := ⟨_, rfl, by decide, xt 864 (by decide +kernel) rfl⟩
theorem fk_9_51 : xlk RX9 51 9 18 := ⟨_, rfl, by decide, xt 865 (by decide +kernel) rfl⟩
theorem fk_9_54 : xlk RX9 54 9 19 := ⟨_, rfl, by decide, xt 866 (by decide +kernel) rfl⟩
theorem fk_9_57 : xlk RX9 57 9 20 := ⟨_, rfl, by decide, xt 867 (by decide +kernel) rfl⟩
theorem fk_9_178 : xlk RX9 178 9 21 := ⟨_, rfl, by decide, xt 868 (by decide +kernel) rfl⟩
theorem fp_9_178 : xlp RX9 178 9 21 .int := ⟨_, rfl, by decide, xt 868 (by decide +kernel) rfl, rfl, by decide +kernel⟩
theorem fk_9_185 : xlk RX9 185 9 22 := ⟨_, rfl, by decide, xt 869 (by decide +kernel) rfl⟩
theorem fp_9_185 : xlp RX9 185 9 22 .int := ⟨_, rfl, by decide, xt 869 (by decide +kernel) rfl, rfl, by decide +kernel⟩
theorem fk_9_60 : xlk RX9 60 9 23 := ⟨_, rfl, by decide, xt 870 (by decide +kernel) rfl⟩
theorem fk_9_63 : xlk RX9 63 9 24 := ⟨_, rfl, by decide, xt 871 (by decide +kernel) rfl⟩
theorem fk_9_66 : xlk RX9 66 9 25 := ⟨_, rfl, by decide, xt 872 (by decide +kernel) rfl⟩
theorem fk_9_203 : xlk RX9 203 9 26 := ⟨_, rfl, by decide, xt 873 (by decide +kernel) rfl⟩
theorem fp_9_203 : xlp RX9 203 9 26 .int := ⟨_, rfl, by decide, xt 873 (by decide +kernel) rfl, rfl, by decide +kernel⟩
theorem fk_9_206 : xlk RX9 206 9 27 := ⟨_, rfl, by decide, xt 874 (by decide +kernel) rfl⟩
theorem fp_9_206 : xlp RX9 206 9 27 .int := ⟨_, rfl, by decide, xt 874 (by decide +kernel) rfl, rfl, by decide +kernel⟩
theorem fk_9_226 : xlk RX9 226 9 28 := ⟨_, rfl, by decide, xt 875 (by decide +kernel) rfl⟩
theorem fp_9_226 : xlp RX9 226 9 28 .int := ⟨_, rfl, by decide, xt 875 (by decide +kernel) rfl, rfl, by decide +kernel⟩
theorem fk_9_69 : xlk RX9 69 9 29 := ⟨_, rfl, by decide, xt 876 (by decide +kernel) rfl⟩
theorem fk_9_72 : xlk RX9 72 9 30 := ⟨_, rfl, by decide, xt 877 (by decide +kernel) rfl⟩
theorem fk_9_75 : xlk RX9 75 9 31 := ⟨_, rfl, by decide, xt 878 (by decide +kernel) rfl⟩
theorem fk_9_78 : xlk RX9 78 9 32 := ⟨_, rfl, by decide, xt 879 (by decide +kernel) rfl⟩
theorem fk_9_252 : xlk RX9 252 9 33 := ⟨_, rfl, by decide, xt 880 (by decide +kernel) rfl⟩
theorem fp_9_252 : xlp RX9 252 9 33 .int := ⟨_, rfl, by decide, xt 880 (by decide +kernel) rfl, rfl, by decide +kernel⟩
theorem fk_9_261 : xlk RX9 261 9 34 := ⟨_, rfl, by decide, xt 881 (by decide +kernel) rfl⟩
theorem fp_9_261 : xlp RX9 261 9 34 .int := ⟨_, rfl, by decide, xt 881 (by decide +kernel) rfl, rfl, by decide +kernel⟩
theorem fk_9_81 : xlk RX9 81 9 35 := ⟨_, rfl, by decide, xt 882 (by decide +kernel) rfl⟩
theorem fk_9_84 : xlk RX9 84 9 36 := ⟨_, rfl, by decide, xt 883 (by decide +kernel) rfl⟩
theorem fk_9_88 : xlk RX9 88 9 37 := ⟨_, rfl, by decide, xt 884 (by decide +kernel) rfl⟩
theorem fk_9_278 : xlk RX9 278 9 38 := ⟨_, rfl, by decide, xt 885 (by decide +kernel) rfl⟩
theorem fp_9_278 : xlp RX9 278 9 38 .int := ⟨_, rfl, by decide, xt 885 (by decide +kernel) rfl, rfl, by decide +kernel⟩
theorem fk_9_91 : xlk RX9 91 9 39 := ⟨_, rfl, by decide, xt 886 (by decide +kernel) rfl⟩
theorem fk_9_94 : xlk RX9 94 9 40 := ⟨_, rfl, by decide, xt 887 (by decide +kernel) rfl⟩
theorem fk_9_299 : xlk RX9 299 9 41 := ⟨_, rfl, by decide, xt 888 (by decide +kernel) rfl⟩
theorem fp_9_299 : xlp RX9 299 9 41 .int := ⟨_, rfl, by decide, xt 888 (by decide +kernel) rfl, rfl, by decide +kernel⟩
theorem cs_8_84 : Cond.constant RX8 84 (-2147483648) ∈ xw := xt 360 (by decide +kernel) rfl
theorem cs_0_27 : Cond.constant RX0 27 (500000) ∈ xw := xt 566 (by decide +kernel) rfl
theorem cs_0_38 : Cond.constantLong RX0 38 (-7046029254386353131) ∈ xw := xt 580 (by decide +kernel) rfl
theorem cs_2_83 : Cond.constantLong RX2 83 (1000000) ∈ xw := xt 684 (by decide +kernel) rfl
theorem cs_1_61 : Cond.constantLong RX1 61 (15) ∈ xw := xt 757 (by decide +kernel) rfl
theorem cs_9_97 : Cond.constantLong RX9 97 (3) ∈ xw := xt 982 (by decide +kernel) rfl
theorem cs_9_109 : Cond.constantLong RX9 109 (2) ∈ xw := xt 986 (by decide +kernel) rfl
theorem cs_9_113 : Cond.constant RX9 113 (-2147483648) ∈ xw := xt 995 (by decide +kernel) rfl
theorem cs_9_114 : Cond.constantLong RX9 114 (4) ∈ xw := xt 1004 (by decide +kernel) rfl
theorem cs_9_119 : Cond.constantLong RX9 119 (-1) ∈ xw := xt 1009 (by decide +kernel) rfl
theorem cs_9_103 : Cond.constantLong RX9 103 (7) ∈ xw := xt 1010 (by decide +kernel) rfl
theorem cs_9_242 : Cond.constantLong RX9 242 (1000000) ∈ xw := xt 1185 (by decide +kernel) rfl
theorem cs_9_276 : Cond.constantLong RX9 276 (-7046029254386353131) ∈ xw := xt 1237 (by decide +kernel) rfl
theorem cs_9_281 : Cond.constantLong RX9 281 (15) ∈ xw := xt 1242 (by decide +kernel) rfl
theorem cs_9_291 : Cond.constantLong RX9 291 (5) ∈ xw := xt 1251 (by decide +kernel) rfl
theorem bi_m8 : (Int8.ofInt (-8)).toInt32 = (-8 : Int32) := by decide
theorem bi_m7 : (Int8.ofInt (-7)).toInt32 = (-7 : Int32) := by decide
theorem bi_m6 : (Int8.ofInt (-6)).toInt32 = (-6 : Int32) := by decide
theorem bi_m5 : (Int8.ofInt (-5)).toInt32 = (-5 : Int32) := by decide
theorem bi_m4 : (Int8.ofInt (-4)).toInt32 = (-4 : Int32) := by decide
theorem bi_m3 : (Int8.ofInt (-3)).toInt32 = (-3 : Int32) := by decide
theorem bi_m2 : (Int8.ofInt (-2)).toInt32 = (-2 : Int32) := by decide
theorem bi_8 : (Int8.ofInt (8)).toInt32 = (8 : Int32) := by decide
theorem bi_9 : (Int8.ofInt (9)).toInt32 = (9 : Int32) := by decide
theorem bi_10 : (Int8.ofInt (10)).toInt32 = (10 : Int32) := by decide
theorem bi_11 : (Int8.ofInt (11)).toInt32 = (11 : Int32) := by decide
theorem bi_12 : (Int8.ofInt (12)).toInt32 = (12 : Int32) := by decide
theorem bi_14 : (Int8.ofInt (14)).toInt32 = (14 : Int32) := by decide
theorem bi_15 : (Int8.ofInt (15)).toInt32 = (15 : Int32) := by decide
theorem bi_16 : (Int8.ofInt (16)).toInt32 = (16 : Int32) := by decide
theorem bi_20 : (Int8.ofInt (20)).toInt32 = (20 : Int32) := by decide
theorem bi_32 : (Int8.ofInt (32)).toInt32 = (32 : Int32) := by decide
theorem bi_34 : (Int8.ofInt (34)).toInt32 = (34 : Int32) := by decide
theorem bi_40 : (Int8.ofInt (40)).toInt32 = (40 : Int32) := by decide
theorem bi_51 : (Int8.ofInt (51)).toInt32 = (51 : Int32) := by decide
theorem bi_64 : (Int8.ofInt (64)).toInt32 = (64 : Int32) := by decide
theorem bi_100 : (Int8.ofInt (100)).toInt32 = (100 : Int32) := by decide
theorem si_160 : (Int16.ofInt (160)).toInt32 = (160 : Int32) := by decide
theorem si_200 : (Int16.ofInt (200)).toInt32 = (200 : Int32) := by decide
theorem si_201 : (Int16.ofInt (201)).toInt32 = (201 : Int32) := by decide
theorem si_256 : (Int16.ofInt (256)).toInt32 = (256 : Int32) := by decide
theorem si_408 : (Int16.ofInt (408)).toInt32 = (408 : Int32) := by decide
theorem si_512 : (Int16.ofInt (512)).toInt32 = (512 : Int32) := by decide
theorem si_800 : (Int16.ofInt (800)).toInt32 = (800 : Int32) := by decide
theorem si_804 : (Int16.ofInt (804)).toInt32 = (804 : Int32) := by decide
theorem si_2800 : (Int16.ofInt (2800)).toInt32 = (2800 : Int32) := by decide
theorem si_3000 : (Int16.ofInt (3000)).toInt32 = (3000 : Int32) := by decide
theorem si_3001 : (Int16.ofInt (3001)).toInt32 = (3001 : Int32) := by decide
theorem si_3015 : (Int16.ofInt (3015)).toInt32 = (3015 : Int32) := by decide
theorem si_3216 : (Int16.ofInt (3216)).toInt32 = (3216 : Int32) := by decide
theorem si_4095 : (Int16.ofInt (4095)).toInt32 = (4095 : Int32) := by decide
theorem si_4096 : (Int16.ofInt (4096)).toInt32 = (4096 : Int32) := by decide
theorem si_8192 : (Int16.ofInt (8192)).toInt32 = (8192 : Int32) := by decide
theorem ii_m1 : Int32.ofInt (-1) = (-1 : Int32) := by decide
theorem ii_1 : Int32.ofInt (1) = (1 : Int32) := by decide
end
section
theorem dX0_clear_0 : decode cX0_clear 0 = .ok (.aload_n 0, 1) := by decide +kernel
theorem dX0_clear_1 : decode cX0_clear 1 = .ok (.iconst 0, 1) := by decide +kernel
theorem dX0_clear_2 : decode cX0_clear 2 = .ok (.putfield 9, 3) := by decide +kernel
theorem dX0_clear_5 : decode cX0_clear 5 = .ok (.aload_n 0, 1) := by decide +kernel
theorem dX0_clear_6 : decode cX0_clear 6 = .ok (.dup, 1) := by decide +kernel
theorem dX0_clear_7 : decode cX0_clear 7 = .ok (.getfield 13, 3) := by decide +kernel
theorem dX0_clear_10 : decode cX0_clear 10 = .ok (.iconst 1, 1) := by decide +kernel
theorem dX0_clear_11 : decode cX0_clear 11 = .ok (.iadd, 1) := by decide +kernel
theorem dX0_clear_12 : decode cX0_clear 12 = .ok (.putfield 13, 3) := by decide +kernel
theorem dX0_clear_15 : decode cX0_clear 15 = .ok (.aload_n 0, 1) := by decide +kernel
theorem dX0_clear_16 : decode cX0_clear 16 = .ok (.getfield 13, 3) := by decide +kernel
theorem dX0_clear_19 : decode cX0_clear 19 = .ok (.ldc 27, 2) := by decide +kernel
theorem dX0_clear_21 : decode cX0_clear 21 = .ok (.if_icmp .le 16, 3) := by decide +kernel
theorem dX0_clear_24 : decode cX0_clear 24 = .ok (.aload_n 0, 1) := by decide +kernel
theorem dX0_clear_25 : decode cX0_clear 25 = .ok (.getfield 24, 3) := by decide +kernel
theorem dX0_clear_28 : decode cX0_clear 28 = .ok (.iconst 0, 1) := by decide +kernel
theorem dX0_clear_29 : decode cX0_clear 29 = .ok (.invokestatic 28, 3) := by decide +kernel
theorem dX0_clear_32 : decode cX0_clear 32 = .ok (.aload_n 0, 1) := by decide +kernel
theorem dX0_clear_33 : decode cX0_clear 33 = .ok (.iconst 1, 1) := by decide +kernel
theorem dX0_clear_34 : decode cX0_clear 34 = .ok (.putfield 13, 3) := by decide +kernel
theorem dX0_clear_37 : decode cX0_clear 37 = .ok (.return_, 1) := by decide +kernel
theorem dX0_find_0 : decode cX0_find 0 = .ok (.aload_n 0, 1) := by decide +kernel
theorem dX0_find_1 : decode cX0_find 1 = .ok (.lload_n 1, 1) := by decide +kernel
theorem dX0_find_2 : decode cX0_find 2 = .ok (.iload_n 3, 1) := by decide +kernel
theorem dX0_find_3 : decode cX0_find 3 = .ok (.invokevirtual 34, 3) := by decide +kernel
theorem dX0_find_6 : decode cX0_find 6 = .ok (.istore 4, 2) := by decide +kernel
theorem dX0_find_8 : decode cX0_find 8 = .ok (.iload 4, 2) := by decide +kernel
theorem dX0_find_10 : decode cX0_find 10 = .ok (.ifCond .lt 24, 3) := by decide +kernel
theorem dX0_find_13 : decode cX0_find 13 = .ok (.aload_n 0, 1) := by decide +kernel
theorem dX0_find_14 : decode cX0_find 14 = .ok (.getfield 24, 3) := by decide +kernel
theorem dX0_find_17 : decode cX0_find 17 = .ok (.iload 4, 2) := by decide +kernel
theorem dX0_find_19 : decode cX0_find 19 = .ok (.iaload, 1) := by decide +kernel
theorem dX0_find_20 : decode cX0_find 20 = .ok (.bipush 12, 2) := by decide +kernel
theorem dX0_find_22 : decode cX0_find 22 = .ok (.iushr, 1) := by decide +kernel
theorem dX0_find_23 : decode cX0_find 23 = .ok (.aload_n 0, 1) := by decide +kernel
theorem dX0_find_24 : decode cX0_find 24 = .ok (.getfield 13, 3) := by decide +kernel
theorem dX0_find_27 : decode cX0_find 27 = .ok (.if_icmp .ne 7, 3) := by decide +kernel
theorem dX0_find_30 : decode cX0_find 30 = .ok (.iconst 1, 1) := by decide +kernel
theorem dX0_find_31 : decode cX0_find 31 = .ok (.goto 4, 3) := by decide +kernel
theorem dX0_find_34 : decode cX0_find 34 = .ok (.iconst 0, 1) := by decide +kernel
theorem dX0_find_35 : decode cX0_find 35 = .ok (.istore 5, 2) := by decide +kernel
theorem dX0_find_37 : decode cX0_find 37 = .ok (.iload 5, 2) := by decide +kernel
theorem dX0_find_39 : decode cX0_find 39 = .ok (.ifCond .eq 17, 3) := by decide +kernel
theorem dX0_find_42 : decode cX0_find 42 = .ok (.aload_n 0, 1) := by decide +kernel
theorem dX0_find_43 : decode cX0_find 43 = .ok (.getfield 24, 3) := by decide +kernel
theorem dX0_find_46 : decode cX0_find 46 = .ok (.iload 4, 2) := by decide +kernel
theorem dX0_find_48 : decode cX0_find 48 = .ok (.iaload, 1) := by decide +kernel
theorem dX0_find_49 : decode cX0_find 49 = .ok (.sipush 4095, 3) := by decide +kernel
theorem dX0_find_52 : decode cX0_find 52 = .ok (.iand, 1) := by decide +kernel
theorem dX0_find_53 : decode cX0_find 53 = .ok (.goto 4, 3) := by decide +kernel
theorem dX0_find_56 : decode cX0_find 56 = .ok (.iconst (-1), 1) := by decide +kernel
theorem dX0_find_57 : decode cX0_find 57 = .ok (.ireturn, 1) := by decide +kernel
theorem dX0_add_0 : decode cX0_add 0 = .ok (.aload_n 0, 1) := by decide +kernel
theorem dX0_add_1 : decode cX0_add 1 = .ok (.lload_n 1, 1) := by decide +kernel
theorem dX0_add_2 : decode cX0_add 2 = .ok (.iload_n 3, 1) := by decide +kernel
theorem dX0_add_3 : decode cX0_add 3 = .ok (.invokevirtual 34, 3) := by decide +kernel
theorem dX0_add_6 : decode cX0_add 6 = .ok (.istore 4, 2) := by decide +kernel
theorem dX0_add_8 : decode cX0_add 8 = .ok (.iload 4, 2) := by decide +kernel
theorem dX0_add_10 : decode cX0_add 10 = .ok (.ifCond .ge 5, 3) := by decide +kernel
theorem dX0_add_13 : decode cX0_add 13 = .ok (.iconst (-1), 1) := by decide +kernel
theorem dX0_add_14 : decode cX0_add 14 = .ok (.ireturn, 1) := by decide +kernel
theorem dX0_add_15 : decode cX0_add 15 = .ok (.aload_n 0, 1) := by decide +kernel
theorem dX0_add_16 : decode cX0_add 16 = .ok (.getfield 24, 3) := by decide +kernel
theorem dX0_add_19 : decode cX0_add 19 = .ok (.iload 4, 2) := by decide +kernel
theorem dX0_add_21 : decode cX0_add 21 = .ok (.iaload, 1) := by decide +kernel
theorem dX0_add_22 : decode cX0_add 22 = .ok (.bipush 12, 2) := by decide +kernel
theorem dX0_add_24 : decode cX0_add 24 = .ok (.iushr, 1) := by decide +kernel
theorem dX0_add_25 : decode cX0_add 25 = .ok (.aload_n 0, 1) := by decide +kernel
theorem dX0_add_26 : decode cX0_add 26 = .ok (.getfield 13, 3) := by decide +kernel
theorem dX0_add_29 : decode cX0_add 29 = .ok (.if_icmp .ne 15, 3) := by decide +kernel
theorem dX0_add_32 : decode cX0_add 32 = .ok (.aload_n 0, 1) := by decide +kernel
theorem dX0_add_33 : decode cX0_add 33 = .ok (.getfield 24, 3) := by decide +kernel
theorem dX0_add_36 : decode cX0_add 36 = .ok (.iload 4, 2) := by decide +kernel
theorem dX0_add_38 : decode cX0_add 38 = .ok (.iaload, 1) := by decide +kernel
theorem dX0_add_39 : decode cX0_add 39 = .ok (.sipush 4095, 3) := by decide +kernel
theorem dX0_add_42 : decode cX0_add 42 = .ok (.iand, 1) := by decide +kernel
theorem dX0_add_43 : decode cX0_add 43 = .ok (.ireturn, 1) := by decide +kernel
theorem dX0_add_44 : decode cX0_add 44 = .ok (.aload_n 0, 1) := by decide +kernel
theorem dX0_add_45 : decode cX0_add 45 = .ok (.getfield 9, 3) := by decide +kernel
theorem dX0_add_48 : decode cX0_add 48 = .ok (.aload_n 0, 1) := by decide +kernel
theorem dX0_add_49 : decode cX0_add 49 = .ok (.getfield 16, 3) := by decide +kernel
theorem dX0_add_52 : decode cX0_add 52 = .ok (.arraylength, 1) := by decide +kernel
theorem dX0_add_53 : decode cX0_add 53 = .ok (.if_icmp .lt 5, 3) := by decide +kernel
theorem dX0_add_56 : decode cX0_add 56 = .ok (.iconst (-1), 1) := by decide +kernel
theorem dX0_add_57 : decode cX0_add 57 = .ok (.ireturn, 1) := by decide +kernel
theorem dX0_add_58 : decode cX0_add 58 = .ok (.aload_n 0, 1) := by decide +kernel
theorem dX0_add_59 : decode cX0_add 59 = .ok (.getfield 16, 3) := by decide +kernel
theorem dX0_add_62 : decode cX0_add 62 = .ok (.aload_n 0, 1) := by decide +kernel
theorem dX0_add_63 : decode cX0_add 63 = .ok (.getfield 9, 3) := by decide +kernel
theorem dX0_add_66 : decode cX0_add 66 = .ok (.lload_n 1, 1) := by decide +kernel
theorem dX0_add_67 : decode cX0_add 67 = .ok (.lastore, 1) := by decide +kernel
theorem dX0_add_68 : decode cX0_add 68 = .ok (.aload_n 0, 1) := by decide +kernel
theorem dX0_add_69 : decode cX0_add 69 = .ok (.getfield 20, 3) := by decide +kernel
theorem dX0_add_72 : decode cX0_add 72 = .ok (.aload_n 0, 1) := by decide +kernel
theorem dX0_add_73 : decode cX0_add 73 = .ok (.getfield 9, 3) := by decide +kernel
theorem dX0_add_76 : decode cX0_add 76 = .ok (.iload_n 3, 1) := by decide +kernel
theorem dX0_add_77 : decode cX0_add 77 = .ok (.iastore, 1) := by decide +kernel
theorem dX0_add_78 : decode cX0_add 78 = .ok (.aload_n 0, 1) := by decide +kernel
theorem dX0_add_79 : decode cX0_add 79 = .ok (.getfield 24, 3) := by decide +kernel
theorem dX0_add_82 : decode cX0_add 82 = .ok (.iload 4, 2) := by decide +kernel
theorem dX0_add_84 : decode cX0_add 84 = .ok (.aload_n 0, 1) := by decide +kernel
theorem dX0_add_85 : decode cX0_add 85 = .ok (.getfield 13, 3) := by decide +kernel
theorem dX0_add_88 : decode cX0_add 88 = .ok (.bipush 12, 2) := by decide +kernel
theorem dX0_add_90 : decode cX0_add 90 = .ok (.ishl, 1) := by decide +kernel
theorem dX0_add_91 : decode cX0_add 91 = .ok (.aload_n 0, 1) := by decide +kernel
theorem dX0_add_92 : decode cX0_add 92 = .ok (.getfield 9, 3) := by decide +kernel
theorem dX0_add_95 : decode cX0_add 95 = .ok (.ior, 1) := by decide +kernel
theorem dX0_add_96 : decode cX0_add 96 = .ok (.iastore, 1) := by decide +kernel
theorem dX0_add_97 : decode cX0_add 97 = .ok (.aload_n 0, 1) := by decide +kernel
theorem dX0_add_98 : decode cX0_add 98 = .ok (.dup, 1) := by decide +kernel
theorem dX0_add_99 : decode cX0_add 99 = .ok (.getfield 9, 3) := by decide +kernel
theorem dX0_add_102 : decode cX0_add 102 = .ok (.iconst 1, 1) := by decide +kernel
theorem dX0_add_103 : decode cX0_add 103 = .ok (.iadd, 1) := by decide +kernel
theorem dX0_add_104 : decode cX0_add 104 = .ok (.putfield 9, 3) := by decide +kernel
theorem dX0_add_107 : decode cX0_add 107 = .ok (.aload_n 0, 1) := by decide +kernel
theorem dX0_add_108 : decode cX0_add 108 = .ok (.getfield 9, 3) := by decide +kernel
theorem dX0_add_111 : decode cX0_add 111 = .ok (.iconst 1, 1) := by decide +kernel
theorem dX0_add_112 : decode cX0_add 112 = .ok (.isub, 1) := by decide +kernel
theorem dX0_add_113 : decode cX0_add 113 = .ok (.ireturn, 1) := by decide +kernel
theorem dX0_slotOf_0 : decode cX0_slotOf 0 = .ok (.aload_n 0, 1) := by decide +kernel
theorem dX0_slotOf_1 : decode cX0_slotOf 1 = .ok (.getfield 24, 3) := by decide +kernel
theorem dX0_slotOf_4 : decode cX0_slotOf 4 = .ok (.arraylength, 1) := by decide +kernel
theorem dX0_slotOf_5 : decode cX0_slotOf 5 = .ok (.iconst 1, 1) := by decide +kernel
theorem dX0_slotOf_6 : decode cX0_slotOf 6 = .ok (.isub, 1) := by decide +kernel
theorem dX0_slotOf_7 : decode cX0_slotOf 7 = .ok (.istore 4, 2) := by decide +kernel
theorem dX0_slotOf_9 : decode cX0_slotOf 9 = .ok (.lload_n 1, 1) := by decide +kernel
theorem dX0_slotOf_10 : decode cX0_slotOf 10 = .ok (.iload_n 3, 1) := by decide +kernel
theorem dX0_slotOf_11 : decode cX0_slotOf 11 = .ok (.i2l, 1) := by decide +kernel
theorem dX0_slotOf_12 : decode cX0_slotOf 12 = .ok (.ladd, 1) := by decide +kernel
theorem dX0_slotOf_13 : decode cX0_slotOf 13 = .ok (.ldc2_w 38, 3) := by decide +kernel
theorem dX0_slotOf_16 : decode cX0_slotOf 16 = .ok (.lmul, 1) := by decide +kernel
theorem dX0_slotOf_17 : decode cX0_slotOf 17 = .ok (.bipush 40, 2) := by decide +kernel
theorem dX0_slotOf_19 : decode cX0_slotOf 19 = .ok (.lushr, 1) := by decide +kernel
theorem dX0_slotOf_20 : decode cX0_slotOf 20 = .ok (.l2i, 1) := by decide +kernel
theorem dX0_slotOf_21 : decode cX0_slotOf 21 = .ok (.iload 4, 2) := by decide +kernel
theorem dX0_slotOf_23 : decode cX0_slotOf 23 = .ok (.iand, 1) := by decide +kernel
theorem dX0_slotOf_24 : decode cX0_slotOf 24 = .ok (.istore 5, 2) := by decide +kernel
theorem dX0_slotOf_26 : decode cX0_slotOf 26 = .ok (.iconst 0, 1) := by decide +kernel
theorem dX0_slotOf_27 : decode cX0_slotOf 27 = .ok (.istore 6, 2) := by decide +kernel
theorem dX0_slotOf_29 : decode cX0_slotOf 29 = .ok (.iload 6, 2) := by decide +kernel
theorem dX0_slotOf_31 : decode cX0_slotOf 31 = .ok (.iload 4, 2) := by decide +kernel
theorem dX0_slotOf_33 : decode cX0_slotOf 33 = .ok (.if_icmp .gt 77, 3) := by decide +kernel
theorem dX0_slotOf_36 : decode cX0_slotOf 36 = .ok (.aload_n 0, 1) := by decide +kernel
theorem dX0_slotOf_37 : decode cX0_slotOf 37 = .ok (.getfield 24, 3) := by decide +kernel
theorem dX0_slotOf_40 : decode cX0_slotOf 40 = .ok (.iload 5, 2) := by decide +kernel
theorem dX0_slotOf_42 : decode cX0_slotOf 42 = .ok (.iaload, 1) := by decide +kernel
theorem dX0_slotOf_43 : decode cX0_slotOf 43 = .ok (.bipush 12, 2) := by decide +kernel
theorem dX0_slotOf_45 : decode cX0_slotOf 45 = .ok (.iushr, 1) := by decide +kernel
theorem dX0_slotOf_46 : decode cX0_slotOf 46 = .ok (.aload_n 0, 1) := by decide +kernel
theorem dX0_slotOf_47 : decode cX0_slotOf 47 = .ok (.getfield 13, 3) := by decide +kernel
theorem dX0_slotOf_50 : decode cX0_slotOf 50 = .ok (.if_icmp .eq 6, 3) := by decide +kernel
theorem dX0_slotOf_53 : decode cX0_slotOf 53 = .ok (.iload 5, 2) := by decide +kernel
theorem dX0_slotOf_55 : decode cX0_slotOf 55 = .ok (.ireturn, 1) := by decide +kernel
theorem dX0_slotOf_56 : decode cX0_slotOf 56 = .ok (.aload_n 0, 1) := by decide +kernel
theorem dX0_slotOf_57 : decode cX0_slotOf 57 = .ok (.getfield 24, 3) := by decide +kernel
theorem dX0_slotOf_60 : decode cX0_slotOf 60 = .ok (.iload 5, 2) := by decide +kernel
theorem dX0_slotOf_62 : decode cX0_slotOf 62 = .ok (.iaload, 1) := by decide +kernel
theorem dX0_slotOf_63 : decode cX0_slotOf 63 = .ok (.sipush 4095, 3) := by decide +kernel
theorem dX0_slotOf_66 : decode cX0_slotOf 66 = .ok (.iand, 1) := by decide +kernel
theorem dX0_slotOf_67 : decode cX0_slotOf 67 = .ok (.istore 7, 2) := by decide +kernel
theorem dX0_slotOf_69 : decode cX0_slotOf 69 = .ok (.aload_n 0, 1) := by decide +kernel
theorem dX0_slotOf_70 : decode cX0_slotOf 70 = .ok (.getfield 16, 3) := by decide +kernel
theorem dX0_slotOf_73 : decode cX0_slotOf 73 = .ok (.iload 7, 2) := by decide +kernel
theorem dX0_slotOf_75 : decode cX0_slotOf 75 = .ok (.laload, 1) := by decide +kernel
theorem dX0_slotOf_76 : decode cX0_slotOf 76 = .ok (.lload_n 1, 1) := by decide +kernel
theorem dX0_slotOf_77 : decode cX0_slotOf 77 = .ok (.lcmp, 1) := by decide +kernel
theorem dX0_slotOf_78 : decode cX0_slotOf 78 = .ok (.ifCond .ne 17, 3) := by decide +kernel
theorem dX0_slotOf_81 : decode cX0_slotOf 81 = .ok (.aload_n 0, 1) := by decide +kernel
theorem dX0_slotOf_82 : decode cX0_slotOf 82 = .ok (.getfield 20, 3) := by decide +kernel
theorem dX0_slotOf_85 : decode cX0_slotOf 85 = .ok (.iload 7, 2) := by decide +kernel
theorem dX0_slotOf_87 : decode cX0_slotOf 87 = .ok (.iaload, 1) := by decide +kernel
theorem dX0_slotOf_88 : decode cX0_slotOf 88 = .ok (.iload_n 3, 1) := by decide +kernel
theorem dX0_slotOf_89 : decode cX0_slotOf 89 = .ok (.if_icmp .ne 6, 3) := by decide +kernel
theorem dX0_slotOf_92 : decode cX0_slotOf 92 = .ok (.iload 5, 2) := by decide +kernel
theorem dX0_slotOf_94 : decode cX0_slotOf 94 = .ok (.ireturn, 1) := by decide +kernel
theorem dX0_slotOf_95 : decode cX0_slotOf 95 = .ok (.iload 5, 2) := by decide +kernel
theorem dX0_slotOf_97 : decode cX0_slotOf 97 = .ok (.iconst 1, 1) := by decide +kernel
theorem dX0_slotOf_98 : decode cX0_slotOf 98 = .ok (.iadd, 1) := by decide +kernel
theorem dX0_slotOf_99 : decode cX0_slotOf 99 = .ok (.iload 4, 2) := by decide +kernel
theorem dX0_slotOf_101 : decode cX0_slotOf 101 = .ok (.iand, 1) := by decide +kernel
theorem dX0_slotOf_102 : decode cX0_slotOf 102 = .ok (.istore 5, 2) := by decide +kernel
theorem dX0_slotOf_104 : decode cX0_slotOf 104 = .ok (.iinc 6 1, 3) := by decide +kernel
theorem dX0_slotOf_107 : decode cX0_slotOf 107 = .ok (.goto (-78), 3) := by decide +kernel
theorem dX0_slotOf_110 : decode cX0_slotOf 110 = .ok (.iconst (-1), 1) := by decide +kernel
theorem dX0_slotOf_111 : decode cX0_slotOf 111 = .ok (.ireturn, 1) := by decide +kernel
theorem dX1_begin_0 : decode cX1_begin 0 = .ok (.aload_n 0, 1) := by decide +kernel
theorem dX1_begin_1 : decode cX1_begin 1 = .ok (.iload_n 1, 1) := by decide +kernel
theorem dX1_begin_2 : decode cX1_begin 2 = .ok (.putfield 28, 3) := by decide +kernel
theorem dX1_begin_5 : decode cX1_begin 5 = .ok (.aload_n 0, 1) := by decide +kernel
theorem dX1_begin_6 : decode cX1_begin 6 = .ok (.iconst 0, 1) := by decide +kernel
theorem dX1_begin_7 : decode cX1_begin 7 = .ok (.putfield 24, 3) := by decide +kernel
theorem dX1_begin_10 : decode cX1_begin 10 = .ok (.aload_n 0, 1) := by decide +kernel
theorem dX1_begin_11 : decode cX1_begin 11 = .ok (.getfield 14, 3) := by decide +kernel
theorem dX1_begin_14 : decode cX1_begin 14 = .ok (.invokevirtual 31, 3) := by decide +kernel
theorem dX1_begin_17 : decode cX1_begin 17 = .ok (.lconst 0, 1) := by decide +kernel
theorem dX1_begin_18 : decode cX1_begin 18 = .ok (.lstore_n 2, 1) := by decide +kernel
theorem dX1_begin_19 : decode cX1_begin 19 = .ok (.iconst 0, 1) := by decide +kernel
theorem dX1_begin_20 : decode cX1_begin 20 = .ok (.istore 4, 2) := by decide +kernel
theorem dX1_begin_22 : decode cX1_begin 22 = .ok (.iload 4, 2) := by decide +kernel
theorem dX1_begin_24 : decode cX1_begin 24 = .ok (.aload_n 0, 1) := by decide +kernel
theorem dX1_begin_25 : decode cX1_begin 25 = .ok (.getfield 28, 3) := by decide +kernel
theorem dX1_begin_28 : decode cX1_begin 28 = .ok (.if_icmp .ge 20, 3) := by decide +kernel
theorem dX1_begin_31 : decode cX1_begin 31 = .ok (.lload_n 2, 1) := by decide +kernel
theorem dX1_begin_32 : decode cX1_begin 32 = .ok (.iload 4, 2) := by decide +kernel
theorem dX1_begin_34 : decode cX1_begin 34 = .ok (.i2l, 1) := by decide +kernel
theorem dX1_begin_35 : decode cX1_begin 35 = .ok (.iconst 4, 1) := by decide +kernel
theorem dX1_begin_36 : decode cX1_begin 36 = .ok (.iload 4, 2) := by decide +kernel
theorem dX1_begin_38 : decode cX1_begin 38 = .ok (.imul, 1) := by decide +kernel
theorem dX1_begin_39 : decode cX1_begin 39 = .ok (.lshl, 1) := by decide +kernel
theorem dX1_begin_40 : decode cX1_begin 40 = .ok (.lor, 1) := by decide +kernel
theorem dX1_begin_41 : decode cX1_begin 41 = .ok (.lstore_n 2, 1) := by decide +kernel
theorem dX1_begin_42 : decode cX1_begin 42 = .ok (.iinc 4 1, 3) := by decide +kernel
theorem dX1_begin_45 : decode cX1_begin 45 = .ok (.goto (-23), 3) := by decide +kernel
theorem dX1_begin_48 : decode cX1_begin 48 = .ok (.aload_n 0, 1) := by decide +kernel
theorem dX1_begin_49 : decode cX1_begin 49 = .ok (.getfield 14, 3) := by decide +kernel
theorem dX1_begin_52 : decode cX1_begin 52 = .ok (.lload_n 2, 1) := by decide +kernel
theorem dX1_begin_53 : decode cX1_begin 53 = .ok (.iconst 0, 1) := by decide +kernel
theorem dX1_begin_54 : decode cX1_begin 54 = .ok (.invokevirtual 34, 3) := by decide +kernel
theorem dX1_begin_57 : decode cX1_begin 57 = .ok (.pop, 1) := by decide +kernel
theorem dX1_begin_58 : decode cX1_begin 58 = .ok (.return_, 1) := by decide +kernel
theorem dX1_bringIn_0 : decode cX1_bringIn 0 = .ok (.aload_n 0, 1) := by decide +kernel
theorem dX1_bringIn_1 : decode cX1_bringIn 1 = .ok (.getfield 14, 3) := by decide +kernel
theorem dX1_bringIn_4 : decode cX1_bringIn 4 = .ok (.lload_n 1, 1) := by decide +kernel
theorem dX1_bringIn_5 : decode cX1_bringIn 5 = .ok (.iconst 0, 1) := by decide +kernel
theorem dX1_bringIn_6 : decode cX1_bringIn 6 = .ok (.invokevirtual 38, 3) := by decide +kernel
theorem dX1_bringIn_9 : decode cX1_bringIn 9 = .ok (.ifCond .ge 12, 3) := by decide +kernel
theorem dX1_bringIn_12 : decode cX1_bringIn 12 = .ok (.aload_n 0, 1) := by decide +kernel
theorem dX1_bringIn_13 : decode cX1_bringIn 13 = .ok (.getfield 24, 3) := by decide +kernel
theorem dX1_bringIn_16 : decode cX1_bringIn 16 = .ok (.bipush 8, 2) := by decide +kernel
theorem dX1_bringIn_18 : decode cX1_bringIn 18 = .ok (.if_icmp .lt 5, 3) := by decide +kernel
theorem dX1_bringIn_21 : decode cX1_bringIn 21 = .ok (.iconst 1, 1) := by decide +kernel
theorem dX1_bringIn_22 : decode cX1_bringIn 22 = .ok (.ireturn, 1) := by decide +kernel
theorem dX1_bringIn_23 : decode cX1_bringIn 23 = .ok (.aload_n 0, 1) := by decide +kernel
theorem dX1_bringIn_24 : decode cX1_bringIn 24 = .ok (.getfield 20, 3) := by decide +kernel
theorem dX1_bringIn_27 : decode cX1_bringIn 27 = .ok (.aload_n 0, 1) := by decide +kernel
theorem dX1_bringIn_28 : decode cX1_bringIn 28 = .ok (.dup, 1) := by decide +kernel
theorem dX1_bringIn_29 : decode cX1_bringIn 29 = .ok (.getfield 24, 3) := by decide +kernel
theorem dX1_bringIn_32 : decode cX1_bringIn 32 = .ok (.dup_x1, 1) := by decide +kernel
theorem dX1_bringIn_33 : decode cX1_bringIn 33 = .ok (.iconst 1, 1) := by decide +kernel
theorem dX1_bringIn_34 : decode cX1_bringIn 34 = .ok (.iadd, 1) := by decide +kernel
theorem dX1_bringIn_35 : decode cX1_bringIn 35 = .ok (.putfield 24, 3) := by decide +kernel
theorem dX1_bringIn_38 : decode cX1_bringIn 38 = .ok (.lload_n 1, 1) := by decide +kernel
theorem dX1_bringIn_39 : decode cX1_bringIn 39 = .ok (.lastore, 1) := by decide +kernel
theorem dX1_bringIn_40 : decode cX1_bringIn 40 = .ok (.aload_n 0, 1) := by decide +kernel
theorem dX1_bringIn_41 : decode cX1_bringIn 41 = .ok (.getfield 14, 3) := by decide +kernel
theorem dX1_bringIn_44 : decode cX1_bringIn 44 = .ok (.getfield 41, 3) := by decide +kernel
theorem dX1_bringIn_47 : decode cX1_bringIn 47 = .ok (.iconst 1, 1) := by decide +kernel
theorem dX1_bringIn_48 : decode cX1_bringIn 48 = .ok (.invokestatic 44, 3) := by decide +kernel
theorem dX1_bringIn_51 : decode cX1_bringIn 51 = .ok (.istore_n 3, 1) := by decide +kernel
theorem dX1_bringIn_52 : decode cX1_bringIn 52 = .ok (.iconst 0, 1) := by decide +kernel
theorem dX1_bringIn_53 : decode cX1_bringIn 53 = .ok (.istore 4, 2) := by decide +kernel
theorem dX1_bringIn_55 : decode cX1_bringIn 55 = .ok (.iload 4, 2) := by decide +kernel
theorem dX1_bringIn_57 : decode cX1_bringIn 57 = .ok (.aload_n 0, 1) := by decide +kernel
theorem dX1_bringIn_58 : decode cX1_bringIn 58 = .ok (.getfield 14, 3) := by decide +kernel
theorem dX1_bringIn_61 : decode cX1_bringIn 61 = .ok (.getfield 41, 3) := by decide +kernel
theorem dX1_bringIn_64 : decode cX1_bringIn 64 = .ok (.if_icmp .ge 86, 3) := by decide +kernel
theorem dX1_bringIn_67 : decode cX1_bringIn 67 = .ok (.iload 4, 2) := by decide +kernel
theorem dX1_bringIn_69 : decode cX1_bringIn 69 = .ok (.sipush 3000, 3) := by decide +kernel
theorem dX1_bringIn_72 : decode cX1_bringIn 72 = .ok (.if_icmp .ge 78, 3) := by decide +kernel
theorem dX1_bringIn_75 : decode cX1_bringIn 75 = .ok (.iconst 0, 1) := by decide +kernel
theorem dX1_bringIn_76 : decode cX1_bringIn 76 = .ok (.istore 5, 2) := by decide +kernel
theorem dX1_bringIn_78 : decode cX1_bringIn 78 = .ok (.iload 5, 2) := by decide +kernel
theorem dX1_bringIn_80 : decode cX1_bringIn 80 = .ok (.aload_n 0, 1) := by decide +kernel
theorem dX1_bringIn_81 : decode cX1_bringIn 81 = .ok (.getfield 24, 3) := by decide +kernel
theorem dX1_bringIn_84 : decode cX1_bringIn 84 = .ok (.if_icmp .ge 57, 3) := by decide +kernel
theorem dX1_bringIn_87 : decode cX1_bringIn 87 = .ok (.aload_n 0, 1) := by decide +kernel
theorem dX1_bringIn_88 : decode cX1_bringIn 88 = .ok (.aload_n 0, 1) := by decide +kernel
theorem dX1_bringIn_89 : decode cX1_bringIn 89 = .ok (.getfield 14, 3) := by decide +kernel
theorem dX1_bringIn_92 : decode cX1_bringIn 92 = .ok (.getfield 50, 3) := by decide +kernel
theorem dX1_bringIn_95 : decode cX1_bringIn 95 = .ok (.iload 4, 2) := by decide +kernel
theorem dX1_bringIn_97 : decode cX1_bringIn 97 = .ok (.laload, 1) := by decide +kernel
theorem dX1_bringIn_98 : decode cX1_bringIn 98 = .ok (.aload_n 0, 1) := by decide +kernel
theorem dX1_bringIn_99 : decode cX1_bringIn 99 = .ok (.getfield 20, 3) := by decide +kernel
theorem dX1_bringIn_102 : decode cX1_bringIn 102 = .ok (.iload 5, 2) := by decide +kernel
theorem dX1_bringIn_104 : decode cX1_bringIn 104 = .ok (.laload, 1) := by decide +kernel
theorem dX1_bringIn_105 : decode cX1_bringIn 105 = .ok (.invokevirtual 53, 3) := by decide +kernel
theorem dX1_bringIn_108 : decode cX1_bringIn 108 = .ok (.lstore 6, 2) := by decide +kernel
theorem dX1_bringIn_110 : decode cX1_bringIn 110 = .ok (.aload_n 0, 1) := by decide +kernel
theorem dX1_bringIn_111 : decode cX1_bringIn 111 = .ok (.getfield 14, 3) := by decide +kernel
theorem dX1_bringIn_114 : decode cX1_bringIn 114 = .ok (.lload 6, 2) := by decide +kernel
theorem dX1_bringIn_116 : decode cX1_bringIn 116 = .ok (.iconst 0, 1) := by decide +kernel
theorem dX1_bringIn_117 : decode cX1_bringIn 117 = .ok (.invokevirtual 38, 3) := by decide +kernel
theorem dX1_bringIn_120 : decode cX1_bringIn 120 = .ok (.ifCond .ge 15, 3) := by decide +kernel
theorem dX1_bringIn_123 : decode cX1_bringIn 123 = .ok (.aload_n 0, 1) := by decide +kernel
theorem dX1_bringIn_124 : decode cX1_bringIn 124 = .ok (.iload_n 3, 1) := by decide +kernel
theorem dX1_bringIn_125 : decode cX1_bringIn 125 = .ok (.lload 6, 2) := by decide +kernel
theorem dX1_bringIn_127 : decode cX1_bringIn 127 = .ok (.invokevirtual 57, 3) := by decide +kernel
theorem dX1_bringIn_130 : decode cX1_bringIn 130 = .ok (.ifCond .ne 5, 3) := by decide +kernel
theorem dX1_bringIn_133 : decode cX1_bringIn 133 = .ok (.iconst 0, 1) := by decide +kernel
theorem dX1_bringIn_134 : decode cX1_bringIn 134 = .ok (.ireturn, 1) := by decide +kernel
theorem dX1_bringIn_135 : decode cX1_bringIn 135 = .ok (.iinc 5 1, 3) := by decide +kernel
theorem dX1_bringIn_138 : decode cX1_bringIn 138 = .ok (.goto (-60), 3) := by decide +kernel
theorem dX1_bringIn_141 : decode cX1_bringIn 141 = .ok (.iload 4, 2) := by decide +kernel
theorem dX1_bringIn_143 : decode cX1_bringIn 143 = .ok (.iload_n 3, 1) := by decide +kernel
theorem dX1_bringIn_144 : decode cX1_bringIn 144 = .ok (.iadd, 1) := by decide +kernel
theorem dX1_bringIn_145 : decode cX1_bringIn 145 = .ok (.istore 4, 2) := by decide +kernel
theorem dX1_bringIn_147 : decode cX1_bringIn 147 = .ok (.goto (-92), 3) := by decide +kernel
theorem dX1_bringIn_150 : decode cX1_bringIn 150 = .ok (.iconst 1, 1) := by decide +kernel
theorem dX1_bringIn_151 : decode cX1_bringIn 151 = .ok (.ireturn, 1) := by decide +kernel
theorem dX1_addBlock_0 : decode cX1_addBlock 0 = .ok (.aload_n 0, 1) := by decide +kernel
theorem dX1_addBlock_1 : decode cX1_addBlock 1 = .ok (.getfield 14, 3) := by decide +kernel
theorem dX1_addBlock_4 : decode cX1_addBlock 4 = .ok (.getfield 41, 3) := by decide +kernel
theorem dX1_addBlock_7 : decode cX1_addBlock 7 = .ok (.iload_n 1, 1) := by decide +kernel
theorem dX1_addBlock_8 : decode cX1_addBlock 8 = .ok (.iadd, 1) := by decide +kernel
theorem dX1_addBlock_9 : decode cX1_addBlock 9 = .ok (.sipush 3000, 3) := by decide +kernel
theorem dX1_addBlock_12 : decode cX1_addBlock 12 = .ok (.if_icmp .le 5, 3) := by decide +kernel
theorem dX1_addBlock_15 : decode cX1_addBlock 15 = .ok (.iconst 0, 1) := by decide +kernel
theorem dX1_addBlock_16 : decode cX1_addBlock 16 = .ok (.ireturn, 1) := by decide +kernel
theorem dX1_addBlock_17 : decode cX1_addBlock 17 = .ok (.iconst 0, 1) := by decide +kernel
theorem dX1_addBlock_18 : decode cX1_addBlock 18 = .ok (.istore 4, 2) := by decide +kernel
theorem dX1_addBlock_20 : decode cX1_addBlock 20 = .ok (.iload 4, 2) := by decide +kernel
theorem dX1_addBlock_22 : decode cX1_addBlock 22 = .ok (.iload_n 1, 1) := by decide +kernel
theorem dX1_addBlock_23 : decode cX1_addBlock 23 = .ok (.if_icmp .ge 33, 3) := by decide +kernel
theorem dX1_addBlock_26 : decode cX1_addBlock 26 = .ok (.aload_n 0, 1) := by decide +kernel
theorem dX1_addBlock_27 : decode cX1_addBlock 27 = .ok (.getfield 14, 3) := by decide +kernel
theorem dX1_addBlock_30 : decode cX1_addBlock 30 = .ok (.aload_n 0, 1) := by decide +kernel
theorem dX1_addBlock_31 : decode cX1_addBlock 31 = .ok (.aload_n 0, 1) := by decide +kernel
theorem dX1_addBlock_32 : decode cX1_addBlock 32 = .ok (.getfield 14, 3) := by decide +kernel
theorem dX1_addBlock_35 : decode cX1_addBlock 35 = .ok (.getfield 50, 3) := by decide +kernel
theorem dX1_addBlock_38 : decode cX1_addBlock 38 = .ok (.iload 4, 2) := by decide +kernel
theorem dX1_addBlock_40 : decode cX1_addBlock 40 = .ok (.laload, 1) := by decide +kernel
theorem dX1_addBlock_41 : decode cX1_addBlock 41 = .ok (.lload_n 2, 1) := by decide +kernel
theorem dX1_addBlock_42 : decode cX1_addBlock 42 = .ok (.invokevirtual 53, 3) := by decide +kernel
theorem dX1_addBlock_45 : decode cX1_addBlock 45 = .ok (.iconst 0, 1) := by decide +kernel
theorem dX1_addBlock_46 : decode cX1_addBlock 46 = .ok (.invokevirtual 34, 3) := by decide +kernel
theorem dX1_addBlock_49 : decode cX1_addBlock 49 = .ok (.pop, 1) := by decide +kernel
theorem dX1_addBlock_50 : decode cX1_addBlock 50 = .ok (.iinc 4 1, 3) := by decide +kernel
theorem dX1_addBlock_53 : decode cX1_addBlock 53 = .ok (.goto (-33), 3) := by decide +kernel
theorem dX1_addBlock_56 : decode cX1_addBlock 56 = .ok (.iconst 1, 1) := by decide +kernel
theorem dX1_addBlock_57 : decode cX1_addBlock 57 = .ok (.ireturn, 1) := by decide +kernel
theorem dX1_behind_0 : decode cX1_behind 0 = .ok (.lconst 0, 1) := by decide +kernel
theorem dX1_behind_1 : decode cX1_behind 1 = .ok (.lstore 5, 2) := by decide +kernel
theorem dX1_behind_3 : decode cX1_behind 3 = .ok (.iconst 0, 1) := by decide +kernel
theorem dX1_behind_4 : decode cX1_behind 4 = .ok (.istore 7, 2) := by decide +kernel
theorem dX1_behind_6 : decode cX1_behind 6 = .ok (.iload 7, 2) := by decide +kernel
theorem dX1_behind_8 : decode cX1_behind 8 = .ok (.aload_n 0, 1) := by decide +kernel
theorem dX1_behind_9 : decode cX1_behind 9 = .ok (.getfield 28, 3) := by decide +kernel
theorem dX1_behind_12 : decode cX1_behind 12 = .ok (.if_icmp .ge 41, 3) := by decide +kernel
theorem dX1_behind_15 : decode cX1_behind 15 = .ok (.lload_n 1, 1) := by decide +kernel
theorem dX1_behind_16 : decode cX1_behind 16 = .ok (.iconst 4, 1) := by decide +kernel
theorem dX1_behind_17 : decode cX1_behind 17 = .ok (.iload 7, 2) := by decide +kernel
theorem dX1_behind_19 : decode cX1_behind 19 = .ok (.imul, 1) := by decide +kernel
theorem dX1_behind_20 : decode cX1_behind 20 = .ok (.lushr, 1) := by decide +kernel
theorem dX1_behind_21 : decode cX1_behind 21 = .ok (.l2i, 1) := by decide +kernel
theorem dX1_behind_22 : decode cX1_behind 22 = .ok (.bipush 15, 2) := by decide +kernel
theorem dX1_behind_24 : decode cX1_behind 24 = .ok (.iand, 1) := by decide +kernel
theorem dX1_behind_25 : decode cX1_behind 25 = .ok (.istore 8, 2) := by decide +kernel
theorem dX1_behind_27 : decode cX1_behind 27 = .ok (.lload 5, 2) := by decide +kernel
theorem dX1_behind_29 : decode cX1_behind 29 = .ok (.lload_n 3, 1) := by decide +kernel
theorem dX1_behind_30 : decode cX1_behind 30 = .ok (.iconst 4, 1) := by decide +kernel
theorem dX1_behind_31 : decode cX1_behind 31 = .ok (.iload 8, 2) := by decide +kernel
theorem dX1_behind_33 : decode cX1_behind 33 = .ok (.imul, 1) := by decide +kernel
theorem dX1_behind_34 : decode cX1_behind 34 = .ok (.lushr, 1) := by decide +kernel
theorem dX1_behind_35 : decode cX1_behind 35 = .ok (.ldc2_w 61, 3) := by decide +kernel
theorem dX1_behind_38 : decode cX1_behind 38 = .ok (.land, 1) := by decide +kernel
theorem dX1_behind_39 : decode cX1_behind 39 = .ok (.iconst 4, 1) := by decide +kernel
theorem dX1_behind_40 : decode cX1_behind 40 = .ok (.iload 7, 2) := by decide +kernel
theorem dX1_behind_42 : decode cX1_behind 42 = .ok (.imul, 1) := by decide +kernel
theorem dX1_behind_43 : decode cX1_behind 43 = .ok (.lshl, 1) := by decide +kernel
theorem dX1_behind_44 : decode cX1_behind 44 = .ok (.lor, 1) := by decide +kernel
theorem dX1_behind_45 : decode cX1_behind 45 = .ok (.lstore 5, 2) := by decide +kernel
theorem dX1_behind_47 : decode cX1_behind 47 = .ok (.iinc 7 1, 3) := by decide +kernel
theorem dX1_behind_50 : decode cX1_behind 50 = .ok (.goto (-44), 3) := by decide +kernel
theorem dX1_behind_53 : decode cX1_behind 53 = .ok (.lload 5, 2) := by decide +kernel
theorem dX1_behind_55 : decode cX1_behind 55 = .ok (.lreturn, 1) := by decide +kernel
theorem dX2_forget_0 : decode cX2_forget 0 = .ok (.aload_n 0, 1) := by decide +kernel
theorem dX2_forget_1 : decode cX2_forget 1 = .ok (.iconst 0, 1) := by decide +kernel
theorem dX2_forget_2 : decode cX2_forget 2 = .ok (.putfield 33, 3) := by decide +kernel
theorem dX2_forget_5 : decode cX2_forget 5 = .ok (.return_, 1) := by decide +kernel
theorem dX2_forgetRows_0 : decode cX2_forgetRows 0 = .ok (.aload_n 0, 1) := by decide +kernel
theorem dX2_forgetRows_1 : decode cX2_forgetRows 1 = .ok (.getfield 21, 3) := by decide +kernel
theorem dX2_forgetRows_4 : decode cX2_forgetRows 4 = .ok (.iconst (-1), 1) := by decide +kernel
theorem dX2_forgetRows_5 : decode cX2_forgetRows 5 = .ok (.invokestatic 37, 3) := by decide +kernel
theorem dX2_forgetRows_8 : decode cX2_forgetRows 8 = .ok (.return_, 1) := by decide +kernel
theorem dX2_build_0 : decode cX2_build 0 = .ok (.aload_n 0, 1) := by decide +kernel
theorem dX2_build_1 : decode cX2_build 1 = .ok (.getfield 33, 3) := by decide +kernel
theorem dX2_build_4 : decode cX2_build 4 = .ok (.ifCond .ne 47, 3) := by decide +kernel
theorem dX2_build_7 : decode cX2_build 7 = .ok (.aload_n 0, 1) := by decide +kernel
theorem dX2_build_8 : decode cX2_build 8 = .ok (.getfield 15, 3) := by decide +kernel
theorem dX2_build_11 : decode cX2_build 11 = .ok (.iconst 0, 1) := by decide +kernel
theorem dX2_build_12 : decode cX2_build 12 = .ok (.iconst 1, 1) := by decide +kernel
theorem dX2_build_13 : decode cX2_build 13 = .ok (.iastore, 1) := by decide +kernel
theorem dX2_build_14 : decode cX2_build 14 = .ok (.aload_n 0, 1) := by decide +kernel
theorem dX2_build_15 : decode cX2_build 15 = .ok (.getfield 18, 3) := by decide +kernel
theorem dX2_build_18 : decode cX2_build 18 = .ok (.iconst 0, 1) := by decide +kernel
theorem dX2_build_19 : decode cX2_build 19 = .ok (.iconst 0, 1) := by decide +kernel
theorem dX2_build_20 : decode cX2_build 20 = .ok (.iastore, 1) := by decide +kernel
theorem dX2_build_21 : decode cX2_build 21 = .ok (.iconst 0, 1) := by decide +kernel
theorem dX2_build_22 : decode cX2_build 22 = .ok (.istore_n 3, 1) := by decide +kernel
theorem dX2_build_23 : decode cX2_build 23 = .ok (.iload_n 3, 1) := by decide +kernel
theorem dX2_build_24 : decode cX2_build 24 = .ok (.bipush 16, 2) := by decide +kernel
theorem dX2_build_26 : decode cX2_build 26 = .ok (.if_icmp .ge 20, 3) := by decide +kernel
theorem dX2_build_29 : decode cX2_build 29 = .ok (.aload_n 0, 1) := by decide +kernel
theorem dX2_build_30 : decode cX2_build 30 = .ok (.getfield 11, 3) := by decide +kernel
theorem dX2_build_33 : decode cX2_build 33 = .ok (.iload_n 3, 1) := by decide +kernel
theorem dX2_build_34 : decode cX2_build 34 = .ok (.sipush 512, 3) := by decide +kernel
theorem dX2_build_37 : decode cX2_build 37 = .ok (.imul, 1) := by decide +kernel
theorem dX2_build_38 : decode cX2_build 38 = .ok (.iconst 0, 1) := by decide +kernel
theorem dX2_build_39 : decode cX2_build 39 = .ok (.iastore, 1) := by decide +kernel
theorem dX2_build_40 : decode cX2_build 40 = .ok (.iinc 3 1, 3) := by decide +kernel
theorem dX2_build_43 : decode cX2_build 43 = .ok (.goto (-20), 3) := by decide +kernel
theorem dX2_build_46 : decode cX2_build 46 = .ok (.aload_n 0, 1) := by decide +kernel
theorem dX2_build_47 : decode cX2_build 47 = .ok (.iconst 1, 1) := by decide +kernel
theorem dX2_build_48 : decode cX2_build 48 = .ok (.putfield 33, 3) := by decide +kernel
theorem dX2_build_51 : decode cX2_build 51 = .ok (.aload_n 0, 1) := by decide +kernel
theorem dX2_build_52 : decode cX2_build 52 = .ok (.getfield 33, 3) := by decide +kernel
theorem dX2_build_55 : decode cX2_build 55 = .ok (.istore_n 3, 1) := by decide +kernel
theorem dX2_build_56 : decode cX2_build 56 = .ok (.iload_n 3, 1) := by decide +kernel
theorem dX2_build_57 : decode cX2_build 57 = .ok (.iload_n 2, 1) := by decide +kernel
theorem dX2_build_58 : decode cX2_build 58 = .ok (.if_icmp .gt 115, 3) := by decide +kernel
theorem dX2_build_61 : decode cX2_build 61 = .ok (.iload_n 3, 1) := by decide +kernel
theorem dX2_build_62 : decode cX2_build 62 = .ok (.bipush 9, 2) := by decide +kernel
theorem dX2_build_64 : decode cX2_build 64 = .ok (.if_icmp .ge 109, 3) := by decide +kernel
theorem dX2_build_67 : decode cX2_build 67 = .ok (.aload_n 0, 1) := by decide +kernel
theorem dX2_build_68 : decode cX2_build 68 = .ok (.getfield 15, 3) := by decide +kernel
theorem dX2_build_71 : decode cX2_build 71 = .ok (.iload_n 3, 1) := by decide +kernel
theorem dX2_build_72 : decode cX2_build 72 = .ok (.aload_n 0, 1) := by decide +kernel
theorem dX2_build_73 : decode cX2_build 73 = .ok (.getfield 15, 3) := by decide +kernel
theorem dX2_build_76 : decode cX2_build 76 = .ok (.iload_n 3, 1) := by decide +kernel
theorem dX2_build_77 : decode cX2_build 77 = .ok (.iconst 1, 1) := by decide +kernel
theorem dX2_build_78 : decode cX2_build 78 = .ok (.isub, 1) := by decide +kernel
theorem dX2_build_79 : decode cX2_build 79 = .ok (.iaload, 1) := by decide +kernel
theorem dX2_build_80 : decode cX2_build 80 = .ok (.aload_n 1, 1) := by decide +kernel
theorem dX2_build_81 : decode cX2_build 81 = .ok (.getfield 43, 3) := by decide +kernel
theorem dX2_build_84 : decode cX2_build 84 = .ok (.imul, 1) := by decide +kernel
theorem dX2_build_85 : decode cX2_build 85 = .ok (.iastore, 1) := by decide +kernel
theorem dX2_build_86 : decode cX2_build 86 = .ok (.aload_n 0, 1) := by decide +kernel
theorem dX2_build_87 : decode cX2_build 87 = .ok (.getfield 18, 3) := by decide +kernel
theorem dX2_build_90 : decode cX2_build 90 = .ok (.iload_n 3, 1) := by decide +kernel
theorem dX2_build_91 : decode cX2_build 91 = .ok (.aload_n 0, 1) := by decide +kernel
theorem dX2_build_92 : decode cX2_build 92 = .ok (.getfield 18, 3) := by decide +kernel
theorem dX2_build_95 : decode cX2_build 95 = .ok (.iload_n 3, 1) := by decide +kernel
theorem dX2_build_96 : decode cX2_build 96 = .ok (.iconst 1, 1) := by decide +kernel
theorem dX2_build_97 : decode cX2_build 97 = .ok (.isub, 1) := by decide +kernel
theorem dX2_build_98 : decode cX2_build 98 = .ok (.iaload, 1) := by decide +kernel
theorem dX2_build_99 : decode cX2_build 99 = .ok (.aload_n 0, 1) := by decide +kernel
theorem dX2_build_100 : decode cX2_build 100 = .ok (.getfield 15, 3) := by decide +kernel
theorem dX2_build_103 : decode cX2_build 103 = .ok (.iload_n 3, 1) := by decide +kernel
theorem dX2_build_104 : decode cX2_build 104 = .ok (.iconst 1, 1) := by decide +kernel
theorem dX2_build_105 : decode cX2_build 105 = .ok (.isub, 1) := by decide +kernel
theorem dX2_build_106 : decode cX2_build 106 = .ok (.iaload, 1) := by decide +kernel
theorem dX2_build_107 : decode cX2_build 107 = .ok (.iadd, 1) := by decide +kernel
theorem dX2_build_108 : decode cX2_build 108 = .ok (.iastore, 1) := by decide +kernel
theorem dX2_build_109 : decode cX2_build 109 = .ok (.iconst 0, 1) := by decide +kernel
theorem dX2_build_110 : decode cX2_build 110 = .ok (.istore 4, 2) := by decide +kernel
theorem dX2_build_112 : decode cX2_build 112 = .ok (.iload 4, 2) := by decide +kernel
theorem dX2_build_114 : decode cX2_build 114 = .ok (.aload_n 1, 1) := by decide +kernel
theorem dX2_build_115 : decode cX2_build 115 = .ok (.getfield 48, 3) := by decide +kernel
theorem dX2_build_118 : decode cX2_build 118 = .ok (.if_icmp .ge 42, 3) := by decide +kernel
theorem dX2_build_121 : decode cX2_build 121 = .ok (.iconst 0, 1) := by decide +kernel
theorem dX2_build_122 : decode cX2_build 122 = .ok (.istore 5, 2) := by decide +kernel
theorem dX2_build_124 : decode cX2_build 124 = .ok (.iload 5, 2) := by decide +kernel
theorem dX2_build_126 : decode cX2_build 126 = .ok (.aload_n 1, 1) := by decide +kernel
theorem dX2_build_127 : decode cX2_build 127 = .ok (.getfield 43, 3) := by decide +kernel
theorem dX2_build_130 : decode cX2_build 130 = .ok (.if_icmp .ge 24, 3) := by decide +kernel
theorem dX2_build_133 : decode cX2_build 133 = .ok (.aload_n 0, 1) := by decide +kernel
theorem dX2_build_134 : decode cX2_build 134 = .ok (.aload_n 1, 1) := by decide +kernel
theorem dX2_build_135 : decode cX2_build 135 = .ok (.iload_n 3, 1) := by decide +kernel
theorem dX2_build_136 : decode cX2_build 136 = .ok (.aload_n 1, 1) := by decide +kernel
theorem dX2_build_137 : decode cX2_build 137 = .ok (.getfield 51, 3) := by decide +kernel
theorem dX2_build_140 : decode cX2_build 140 = .ok (.iload 4, 2) := by decide +kernel
theorem dX2_build_142 : decode cX2_build 142 = .ok (.iaload, 1) := by decide +kernel
theorem dX2_build_143 : decode cX2_build 143 = .ok (.iload 5, 2) := by decide +kernel
theorem dX2_build_145 : decode cX2_build 145 = .ok (.invokevirtual 54, 3) := by decide +kernel
theorem dX2_build_148 : decode cX2_build 148 = .ok (.iinc 5 1, 3) := by decide +kernel
theorem dX2_build_151 : decode cX2_build 151 = .ok (.goto (-27), 3) := by decide +kernel
theorem dX2_build_154 : decode cX2_build 154 = .ok (.iinc 4 1, 3) := by decide +kernel
theorem dX2_build_157 : decode cX2_build 157 = .ok (.goto (-45), 3) := by decide +kernel
theorem dX2_build_160 : decode cX2_build 160 = .ok (.aload_n 0, 1) := by decide +kernel
theorem dX2_build_161 : decode cX2_build 161 = .ok (.iload_n 3, 1) := by decide +kernel
theorem dX2_build_162 : decode cX2_build 162 = .ok (.iconst 1, 1) := by decide +kernel
theorem dX2_build_163 : decode cX2_build 163 = .ok (.iadd, 1) := by decide +kernel
theorem dX2_build_164 : decode cX2_build 164 = .ok (.putfield 33, 3) := by decide +kernel
theorem dX2_build_167 : decode cX2_build 167 = .ok (.iinc 3 1, 3) := by decide +kernel
theorem dX2_build_170 : decode cX2_build 170 = .ok (.goto (-114), 3) := by decide +kernel
theorem dX2_build_173 : decode cX2_build 173 = .ok (.return_, 1) := by decide +kernel
theorem dX2_buildBranch_0 : decode cX2_buildBranch 0 = .ok (.aload_n 0, 1) := by decide +kernel
theorem dX2_buildBranch_1 : decode cX2_buildBranch 1 = .ok (.getfield 15, 3) := by decide +kernel
theorem dX2_buildBranch_4 : decode cX2_buildBranch 4 = .ok (.iload_n 2, 1) := by decide +kernel
theorem dX2_buildBranch_5 : decode cX2_buildBranch 5 = .ok (.iconst 1, 1) := by decide +kernel
theorem dX2_buildBranch_6 : decode cX2_buildBranch 6 = .ok (.isub, 1) := by decide +kernel
theorem dX2_buildBranch_7 : decode cX2_buildBranch 7 = .ok (.iaload, 1) := by decide +kernel
theorem dX2_buildBranch_8 : decode cX2_buildBranch 8 = .ok (.istore 5, 2) := by decide +kernel
theorem dX2_buildBranch_10 : decode cX2_buildBranch 10 = .ok (.aload_n 1, 1) := by decide +kernel
theorem dX2_buildBranch_11 : decode cX2_buildBranch 11 = .ok (.getfield 58, 3) := by decide +kernel
theorem dX2_buildBranch_14 : decode cX2_buildBranch 14 = .ok (.iload_n 3, 1) := by decide +kernel
theorem dX2_buildBranch_15 : decode cX2_buildBranch 15 = .ok (.iconst 4, 1) := by decide +kernel
theorem dX2_buildBranch_16 : decode cX2_buildBranch 16 = .ok (.imul, 1) := by decide +kernel
theorem dX2_buildBranch_17 : decode cX2_buildBranch 17 = .ok (.iload 4, 2) := by decide +kernel
theorem dX2_buildBranch_19 : decode cX2_buildBranch 19 = .ok (.iadd, 1) := by decide +kernel
theorem dX2_buildBranch_20 : decode cX2_buildBranch 20 = .ok (.iaload, 1) := by decide +kernel
theorem dX2_buildBranch_21 : decode cX2_buildBranch 21 = .ok (.istore 6, 2) := by decide +kernel
theorem dX2_buildBranch_23 : decode cX2_buildBranch 23 = .ok (.aload_n 1, 1) := by decide +kernel
theorem dX2_buildBranch_24 : decode cX2_buildBranch 24 = .ok (.getfield 61, 3) := by decide +kernel
theorem dX2_buildBranch_27 : decode cX2_buildBranch 27 = .ok (.iload_n 3, 1) := by decide +kernel
theorem dX2_buildBranch_28 : decode cX2_buildBranch 28 = .ok (.iconst 4, 1) := by decide +kernel
theorem dX2_buildBranch_29 : decode cX2_buildBranch 29 = .ok (.imul, 1) := by decide +kernel
theorem dX2_buildBranch_30 : decode cX2_buildBranch 30 = .ok (.iload 4, 2) := by decide +kernel
theorem dX2_buildBranch_32 : decode cX2_buildBranch 32 = .ok (.iadd, 1) := by decide +kernel
theorem dX2_buildBranch_33 : decode cX2_buildBranch 33 = .ok (.iaload, 1) := by decide +kernel
theorem dX2_buildBranch_34 : decode cX2_buildBranch 34 = .ok (.istore 7, 2) := by decide +kernel
theorem dX2_buildBranch_36 : decode cX2_buildBranch 36 = .ok (.iload_n 3, 1) := by decide +kernel
theorem dX2_buildBranch_37 : decode cX2_buildBranch 37 = .ok (.sipush 512, 3) := by decide +kernel
theorem dX2_buildBranch_40 : decode cX2_buildBranch 40 = .ok (.imul, 1) := by decide +kernel
theorem dX2_buildBranch_41 : decode cX2_buildBranch 41 = .ok (.aload_n 0, 1) := by decide +kernel
theorem dX2_buildBranch_42 : decode cX2_buildBranch 42 = .ok (.getfield 18, 3) := by decide +kernel
theorem dX2_buildBranch_45 : decode cX2_buildBranch 45 = .ok (.iload_n 2, 1) := by decide +kernel
theorem dX2_buildBranch_46 : decode cX2_buildBranch 46 = .ok (.iaload, 1) := by decide +kernel
theorem dX2_buildBranch_47 : decode cX2_buildBranch 47 = .ok (.iadd, 1) := by decide +kernel
theorem dX2_buildBranch_48 : decode cX2_buildBranch 48 = .ok (.iload 4, 2) := by decide +kernel
theorem dX2_buildBranch_50 : decode cX2_buildBranch 50 = .ok (.iload 5, 2) := by decide +kernel
theorem dX2_buildBranch_52 : decode cX2_buildBranch 52 = .ok (.imul, 1) := by decide +kernel
theorem dX2_buildBranch_53 : decode cX2_buildBranch 53 = .ok (.iadd, 1) := by decide +kernel
theorem dX2_buildBranch_54 : decode cX2_buildBranch 54 = .ok (.istore 8, 2) := by decide +kernel
theorem dX2_buildBranch_56 : decode cX2_buildBranch 56 = .ok (.iconst 0, 1) := by decide +kernel
theorem dX2_buildBranch_57 : decode cX2_buildBranch 57 = .ok (.istore 9, 2) := by decide +kernel
theorem dX2_buildBranch_59 : decode cX2_buildBranch 59 = .ok (.iload 9, 2) := by decide +kernel
theorem dX2_buildBranch_61 : decode cX2_buildBranch 61 = .ok (.iload 5, 2) := by decide +kernel
theorem dX2_buildBranch_63 : decode cX2_buildBranch 63 = .ok (.if_icmp .ge 63, 3) := by decide +kernel
theorem dX2_buildBranch_66 : decode cX2_buildBranch 66 = .ok (.iload 7, 2) := by decide +kernel
theorem dX2_buildBranch_68 : decode cX2_buildBranch 68 = .ok (.iconst (-1), 1) := by decide +kernel
theorem dX2_buildBranch_69 : decode cX2_buildBranch 69 = .ok (.if_icmp .ne 8, 3) := by decide +kernel
theorem dX2_buildBranch_72 : decode cX2_buildBranch 72 = .ok (.iload 9, 2) := by decide +kernel
theorem dX2_buildBranch_74 : decode cX2_buildBranch 74 = .ok (.goto 26, 3) := by decide +kernel
theorem dX2_buildBranch_77 : decode cX2_buildBranch 77 = .ok (.aload_n 0, 1) := by decide +kernel
theorem dX2_buildBranch_78 : decode cX2_buildBranch 78 = .ok (.getfield 11, 3) := by decide +kernel
theorem dX2_buildBranch_81 : decode cX2_buildBranch 81 = .ok (.iload 7, 2) := by decide +kernel
theorem dX2_buildBranch_83 : decode cX2_buildBranch 83 = .ok (.sipush 512, 3) := by decide +kernel
theorem dX2_buildBranch_86 : decode cX2_buildBranch 86 = .ok (.imul, 1) := by decide +kernel
theorem dX2_buildBranch_87 : decode cX2_buildBranch 87 = .ok (.aload_n 0, 1) := by decide +kernel
theorem dX2_buildBranch_88 : decode cX2_buildBranch 88 = .ok (.getfield 18, 3) := by decide +kernel
theorem dX2_buildBranch_91 : decode cX2_buildBranch 91 = .ok (.iload_n 2, 1) := by decide +kernel
theorem dX2_buildBranch_92 : decode cX2_buildBranch 92 = .ok (.iconst 1, 1) := by decide +kernel
theorem dX2_buildBranch_93 : decode cX2_buildBranch 93 = .ok (.isub, 1) := by decide +kernel
theorem dX2_buildBranch_94 : decode cX2_buildBranch 94 = .ok (.iaload, 1) := by decide +kernel
theorem dX2_buildBranch_95 : decode cX2_buildBranch 95 = .ok (.iadd, 1) := by decide +kernel
theorem dX2_buildBranch_96 : decode cX2_buildBranch 96 = .ok (.iload 9, 2) := by decide +kernel
theorem dX2_buildBranch_98 : decode cX2_buildBranch 98 = .ok (.iadd, 1) := by decide +kernel
theorem dX2_buildBranch_99 : decode cX2_buildBranch 99 = .ok (.iaload, 1) := by decide +kernel
theorem dX2_buildBranch_100 : decode cX2_buildBranch 100 = .ok (.istore 10, 2) := by decide +kernel
theorem dX2_buildBranch_102 : decode cX2_buildBranch 102 = .ok (.aload_n 0, 1) := by decide +kernel
theorem dX2_buildBranch_103 : decode cX2_buildBranch 103 = .ok (.getfield 11, 3) := by decide +kernel
theorem dX2_buildBranch_106 : decode cX2_buildBranch 106 = .ok (.iload 8, 2) := by decide +kernel
theorem dX2_buildBranch_108 : decode cX2_buildBranch 108 = .ok (.iload 9, 2) := by decide +kernel
theorem dX2_buildBranch_110 : decode cX2_buildBranch 110 = .ok (.iadd, 1) := by decide +kernel
theorem dX2_buildBranch_111 : decode cX2_buildBranch 111 = .ok (.iload 6, 2) := by decide +kernel
theorem dX2_buildBranch_113 : decode cX2_buildBranch 113 = .ok (.iload 5, 2) := by decide +kernel
theorem dX2_buildBranch_115 : decode cX2_buildBranch 115 = .ok (.imul, 1) := by decide +kernel
theorem dX2_buildBranch_116 : decode cX2_buildBranch 116 = .ok (.iload 10, 2) := by decide +kernel
theorem dX2_buildBranch_118 : decode cX2_buildBranch 118 = .ok (.iadd, 1) := by decide +kernel
theorem dX2_buildBranch_119 : decode cX2_buildBranch 119 = .ok (.iastore, 1) := by decide +kernel
theorem dX2_buildBranch_120 : decode cX2_buildBranch 120 = .ok (.iinc 9 1, 3) := by decide +kernel
theorem dX2_buildBranch_123 : decode cX2_buildBranch 123 = .ok (.goto (-64), 3) := by decide +kernel
theorem dX2_buildBranch_126 : decode cX2_buildBranch 126 = .ok (.return_, 1) := by decide +kernel
theorem dX2_spread_0 : decode cX2_spread 0 = .ok (.iconst 1, 1) := by decide +kernel
theorem dX2_spread_1 : decode cX2_spread 1 = .ok (.istore 5, 2) := by decide +kernel
theorem dX2_spread_3 : decode cX2_spread 3 = .ok (.aload_n 0, 1) := by decide +kernel
theorem dX2_spread_4 : decode cX2_spread 4 = .ok (.getfield 24, 3) := by decide +kernel
theorem dX2_spread_7 : decode cX2_spread 7 = .ok (.iconst 0, 1) := by decide +kernel
theorem dX2_spread_8 : decode cX2_spread 8 = .ok (.iload_n 3, 1) := by decide +kernel
theorem dX2_spread_9 : decode cX2_spread 9 = .ok (.iastore, 1) := by decide +kernel
theorem dX2_spread_10 : decode cX2_spread 10 = .ok (.aload_n 0, 1) := by decide +kernel
theorem dX2_spread_11 : decode cX2_spread 11 = .ok (.getfield 21, 3) := by decide +kernel
theorem dX2_spread_14 : decode cX2_spread 14 = .ok (.iload_n 3, 1) := by decide +kernel
theorem dX2_spread_15 : decode cX2_spread 15 = .ok (.iconst 0, 1) := by decide +kernel
theorem dX2_spread_16 : decode cX2_spread 16 = .ok (.iastore, 1) := by decide +kernel
theorem dX2_spread_17 : decode cX2_spread 17 = .ok (.iconst 0, 1) := by decide +kernel
theorem dX2_spread_18 : decode cX2_spread 18 = .ok (.istore 6, 2) := by decide +kernel
theorem dX2_spread_20 : decode cX2_spread 20 = .ok (.iload 6, 2) := by decide +kernel
theorem dX2_spread_22 : decode cX2_spread 22 = .ok (.iload 5, 2) := by decide +kernel
theorem dX2_spread_24 : decode cX2_spread 24 = .ok (.if_icmp .ge 148, 3) := by decide +kernel
theorem dX2_spread_27 : decode cX2_spread 27 = .ok (.iload 6, 2) := by decide +kernel
theorem dX2_spread_29 : decode cX2_spread 29 = .ok (.sipush 256, 3) := by decide +kernel
theorem dX2_spread_32 : decode cX2_spread 32 = .ok (.if_icmp .ge 140, 3) := by decide +kernel
theorem dX2_spread_35 : decode cX2_spread 35 = .ok (.aload_n 0, 1) := by decide +kernel
theorem dX2_spread_36 : decode cX2_spread 36 = .ok (.getfield 24, 3) := by decide +kernel
theorem dX2_spread_39 : decode cX2_spread 39 = .ok (.iload 6, 2) := by decide +kernel
theorem dX2_spread_41 : decode cX2_spread 41 = .ok (.iaload, 1) := by decide +kernel
theorem dX2_spread_42 : decode cX2_spread 42 = .ok (.istore 7, 2) := by decide +kernel
theorem dX2_spread_44 : decode cX2_spread 44 = .ok (.iconst 0, 1) := by decide +kernel
theorem dX2_spread_45 : decode cX2_spread 45 = .ok (.istore 8, 2) := by decide +kernel
theorem dX2_spread_47 : decode cX2_spread 47 = .ok (.iload 8, 2) := by decide +kernel
theorem dX2_spread_49 : decode cX2_spread 49 = .ok (.aload_n 1, 1) := by decide +kernel
theorem dX2_spread_50 : decode cX2_spread 50 = .ok (.getfield 48, 3) := by decide +kernel
theorem dX2_spread_53 : decode cX2_spread 53 = .ok (.if_icmp .ge 113, 3) := by decide +kernel
theorem dX2_spread_56 : decode cX2_spread 56 = .ok (.aload_n 1, 1) := by decide +kernel
theorem dX2_spread_57 : decode cX2_spread 57 = .ok (.getfield 51, 3) := by decide +kernel
theorem dX2_spread_60 : decode cX2_spread 60 = .ok (.iload 8, 2) := by decide +kernel
theorem dX2_spread_62 : decode cX2_spread 62 = .ok (.iaload, 1) := by decide +kernel
theorem dX2_spread_63 : decode cX2_spread 63 = .ok (.istore 9, 2) := by decide +kernel
theorem dX2_spread_65 : decode cX2_spread 65 = .ok (.aload_n 0, 1) := by decide +kernel
theorem dX2_spread_66 : decode cX2_spread 66 = .ok (.getfield 11, 3) := by decide +kernel
theorem dX2_spread_69 : decode cX2_spread 69 = .ok (.iload 9, 2) := by decide +kernel
theorem dX2_spread_71 : decode cX2_spread 71 = .ok (.sipush 512, 3) := by decide +kernel
theorem dX2_spread_74 : decode cX2_spread 74 = .ok (.imul, 1) := by decide +kernel
theorem dX2_spread_75 : decode cX2_spread 75 = .ok (.aload_n 0, 1) := by decide +kernel
theorem dX2_spread_76 : decode cX2_spread 76 = .ok (.getfield 18, 3) := by decide +kernel
theorem dX2_spread_79 : decode cX2_spread 79 = .ok (.iload_n 2, 1) := by decide +kernel
theorem dX2_spread_80 : decode cX2_spread 80 = .ok (.iaload, 1) := by decide +kernel
theorem dX2_spread_81 : decode cX2_spread 81 = .ok (.iadd, 1) := by decide +kernel
theorem dX2_spread_82 : decode cX2_spread 82 = .ok (.iload 7, 2) := by decide +kernel
theorem dX2_spread_84 : decode cX2_spread 84 = .ok (.iadd, 1) := by decide +kernel
theorem dX2_spread_85 : decode cX2_spread 85 = .ok (.iaload, 1) := by decide +kernel
theorem dX2_spread_86 : decode cX2_spread 86 = .ok (.istore 10, 2) := by decide +kernel
theorem dX2_spread_88 : decode cX2_spread 88 = .ok (.aload_n 0, 1) := by decide +kernel
theorem dX2_spread_89 : decode cX2_spread 89 = .ok (.getfield 21, 3) := by decide +kernel
theorem dX2_spread_92 : decode cX2_spread 92 = .ok (.iload 10, 2) := by decide +kernel
theorem dX2_spread_94 : decode cX2_spread 94 = .ok (.iaload, 1) := by decide +kernel
theorem dX2_spread_95 : decode cX2_spread 95 = .ok (.ifCond .ge 65, 3) := by decide +kernel
theorem dX2_spread_98 : decode cX2_spread 98 = .ok (.iload 4, 2) := by decide +kernel
theorem dX2_spread_100 : decode cX2_spread 100 = .ok (.ifCond .eq 14, 3) := by decide +kernel
theorem dX2_spread_103 : decode cX2_spread 103 = .ok (.aload_n 1, 1) := by decide +kernel
theorem dX2_spread_104 : decode cX2_spread 104 = .ok (.iload 9, 2) := by decide +kernel
theorem dX2_spread_106 : decode cX2_spread 106 = .ok (.iconst 1, 1) := by decide +kernel
theorem dX2_spread_107 : decode cX2_spread 107 = .ok (.ishr, 1) := by decide +kernel
theorem dX2_spread_108 : decode cX2_spread 108 = .ok (.invokevirtual 64, 3) := by decide +kernel
theorem dX2_spread_111 : decode cX2_spread 111 = .ok (.ifCond .eq 49, 3) := by decide +kernel
theorem dX2_spread_114 : decode cX2_spread 114 = .ok (.aload_n 0, 1) := by decide +kernel
theorem dX2_spread_115 : decode cX2_spread 115 = .ok (.getfield 21, 3) := by decide +kernel
theorem dX2_spread_118 : decode cX2_spread 118 = .ok (.iload 10, 2) := by decide +kernel
theorem dX2_spread_120 : decode cX2_spread 120 = .ok (.aload_n 0, 1) := by decide +kernel
theorem dX2_spread_121 : decode cX2_spread 121 = .ok (.getfield 21, 3) := by decide +kernel
theorem dX2_spread_124 : decode cX2_spread 124 = .ok (.iload 7, 2) := by decide +kernel
theorem dX2_spread_126 : decode cX2_spread 126 = .ok (.iaload, 1) := by decide +kernel
theorem dX2_spread_127 : decode cX2_spread 127 = .ok (.iconst 1, 1) := by decide +kernel
theorem dX2_spread_128 : decode cX2_spread 128 = .ok (.iadd, 1) := by decide +kernel
theorem dX2_spread_129 : decode cX2_spread 129 = .ok (.iastore, 1) := by decide +kernel
theorem dX2_spread_130 : decode cX2_spread 130 = .ok (.aload_n 0, 1) := by decide +kernel
theorem dX2_spread_131 : decode cX2_spread 131 = .ok (.getfield 27, 3) := by decide +kernel
theorem dX2_spread_134 : decode cX2_spread 134 = .ok (.iload 10, 2) := by decide +kernel
theorem dX2_spread_136 : decode cX2_spread 136 = .ok (.iload 7, 2) := by decide +kernel
theorem dX2_spread_138 : decode cX2_spread 138 = .ok (.iastore, 1) := by decide +kernel
theorem dX2_spread_139 : decode cX2_spread 139 = .ok (.aload_n 0, 1) := by decide +kernel
theorem dX2_spread_140 : decode cX2_spread 140 = .ok (.getfield 30, 3) := by decide +kernel
theorem dX2_spread_143 : decode cX2_spread 143 = .ok (.iload 10, 2) := by decide +kernel
theorem dX2_spread_145 : decode cX2_spread 145 = .ok (.iload 9, 2) := by decide +kernel
theorem dX2_spread_147 : decode cX2_spread 147 = .ok (.iastore, 1) := by decide +kernel
theorem dX2_spread_148 : decode cX2_spread 148 = .ok (.aload_n 0, 1) := by decide +kernel
theorem dX2_spread_149 : decode cX2_spread 149 = .ok (.getfield 24, 3) := by decide +kernel
theorem dX2_spread_152 : decode cX2_spread 152 = .ok (.iload 5, 2) := by decide +kernel
theorem dX2_spread_154 : decode cX2_spread 154 = .ok (.iinc 5 1, 3) := by decide +kernel
theorem dX2_spread_157 : decode cX2_spread 157 = .ok (.iload 10, 2) := by decide +kernel
theorem dX2_spread_159 : decode cX2_spread 159 = .ok (.iastore, 1) := by decide +kernel
theorem dX2_spread_160 : decode cX2_spread 160 = .ok (.iinc 8 1, 3) := by decide +kernel
theorem dX2_spread_163 : decode cX2_spread 163 = .ok (.goto (-116), 3) := by decide +kernel
theorem dX2_spread_166 : decode cX2_spread 166 = .ok (.iinc 6 1, 3) := by decide +kernel
theorem dX2_spread_169 : decode cX2_spread 169 = .ok (.goto (-149), 3) := by decide +kernel
theorem dX2_spread_172 : decode cX2_spread 172 = .ok (.iload 5, 2) := by decide +kernel
theorem dX2_spread_174 : decode cX2_spread 174 = .ok (.ireturn, 1) := by decide +kernel
theorem dX2_countBackOrbits_0 : decode cX2_countBackOrbits 0 = .ok (.iconst 0, 1) := by decide +kernel
theorem dX2_countBackOrbits_1 : decode cX2_countBackOrbits 1 = .ok (.istore_n 3, 1) := by decide +kernel
theorem dX2_countBackOrbits_2 : decode cX2_countBackOrbits 2 = .ok (.aload_n 0, 1) := by decide +kernel
theorem dX2_countBackOrbits_3 : decode cX2_countBackOrbits 3 = .ok (.invokevirtual 68, 3) := by decide +kernel
theorem dX2_countBackOrbits_6 : decode cX2_countBackOrbits 6 = .ok (.iconst 0, 1) := by decide +kernel
theorem dX2_countBackOrbits_7 : decode cX2_countBackOrbits 7 = .ok (.istore 4, 2) := by decide +kernel
theorem dX2_countBackOrbits_9 : decode cX2_countBackOrbits 9 = .ok (.iload 4, 2) := by decide +kernel
theorem dX2_countBackOrbits_11 : decode cX2_countBackOrbits 11 = .ok (.aload_n 0, 1) := by decide +kernel
theorem dX2_countBackOrbits_12 : decode cX2_countBackOrbits 12 = .ok (.getfield 15, 3) := by decide +kernel
theorem dX2_countBackOrbits_15 : decode cX2_countBackOrbits 15 = .ok (.iload_n 2, 1) := by decide +kernel
theorem dX2_countBackOrbits_16 : decode cX2_countBackOrbits 16 = .ok (.iaload, 1) := by decide +kernel
theorem dX2_countBackOrbits_17 : decode cX2_countBackOrbits 17 = .ok (.if_icmp .ge 32, 3) := by decide +kernel
theorem dX2_countBackOrbits_20 : decode cX2_countBackOrbits 20 = .ok (.aload_n 0, 1) := by decide +kernel
theorem dX2_countBackOrbits_21 : decode cX2_countBackOrbits 21 = .ok (.getfield 21, 3) := by decide +kernel
theorem dX2_countBackOrbits_24 : decode cX2_countBackOrbits 24 = .ok (.iload 4, 2) := by decide +kernel
theorem dX2_countBackOrbits_26 : decode cX2_countBackOrbits 26 = .ok (.iaload, 1) := by decide +kernel
theorem dX2_countBackOrbits_27 : decode cX2_countBackOrbits 27 = .ok (.ifCond .ge 16, 3) := by decide +kernel
theorem dX2_countBackOrbits_30 : decode cX2_countBackOrbits 30 = .ok (.aload_n 0, 1) := by decide +kernel
theorem dX2_countBackOrbits_31 : decode cX2_countBackOrbits 31 = .ok (.aload_n 1, 1) := by decide +kernel
theorem dX2_countBackOrbits_32 : decode cX2_countBackOrbits 32 = .ok (.iload_n 2, 1) := by decide +kernel
theorem dX2_countBackOrbits_33 : decode cX2_countBackOrbits 33 = .ok (.iload 4, 2) := by decide +kernel
theorem dX2_countBackOrbits_35 : decode cX2_countBackOrbits 35 = .ok (.iconst 1, 1) := by decide +kernel
theorem dX2_countBackOrbits_36 : decode cX2_countBackOrbits 36 = .ok (.invokevirtual 71, 3) := by decide +kernel
theorem dX2_countBackOrbits_39 : decode cX2_countBackOrbits 39 = .ok (.pop, 1) := by decide +kernel
theorem dX2_countBackOrbits_40 : decode cX2_countBackOrbits 40 = .ok (.iinc 3 1, 3) := by decide +kernel
theorem dX2_countBackOrbits_43 : decode cX2_countBackOrbits 43 = .ok (.iinc 4 1, 3) := by decide +kernel
theorem dX2_countBackOrbits_46 : decode cX2_countBackOrbits 46 = .ok (.goto (-37), 3) := by decide +kernel
theorem dX2_countBackOrbits_49 : decode cX2_countBackOrbits 49 = .ok (.iload_n 3, 1) := by decide +kernel
theorem dX2_countBackOrbits_50 : decode cX2_countBackOrbits 50 = .ok (.ireturn, 1) := by decide +kernel
theorem dX2_markOfMove_0 : decode cX2_markOfMove 0 = .ok (.iload_n 1, 1) := by decide +kernel
theorem dX2_markOfMove_1 : decode cX2_markOfMove 1 = .ok (.istore 4, 2) := by decide +kernel
theorem dX2_markOfMove_3 : decode cX2_markOfMove 3 = .ok (.iload_n 2, 1) := by decide +kernel
theorem dX2_markOfMove_4 : decode cX2_markOfMove 4 = .ok (.iconst 1, 1) := by decide +kernel
theorem dX2_markOfMove_5 : decode cX2_markOfMove 5 = .ok (.isub, 1) := by decide +kernel
theorem dX2_markOfMove_6 : decode cX2_markOfMove 6 = .ok (.istore 5, 2) := by decide +kernel
theorem dX2_markOfMove_8 : decode cX2_markOfMove 8 = .ok (.iload 5, 2) := by decide +kernel
theorem dX2_markOfMove_10 : decode cX2_markOfMove 10 = .ok (.iload_n 3, 1) := by decide +kernel
theorem dX2_markOfMove_11 : decode cX2_markOfMove 11 = .ok (.if_icmp .le 18, 3) := by decide +kernel
theorem dX2_markOfMove_14 : decode cX2_markOfMove 14 = .ok (.aload_n 0, 1) := by decide +kernel
theorem dX2_markOfMove_15 : decode cX2_markOfMove 15 = .ok (.getfield 27, 3) := by decide +kernel
theorem dX2_markOfMove_18 : decode cX2_markOfMove 18 = .ok (.iload 4, 2) := by decide +kernel
theorem dX2_markOfMove_20 : decode cX2_markOfMove 20 = .ok (.iaload, 1) := by decide +kernel
theorem dX2_markOfMove_21 : decode cX2_markOfMove 21 = .ok (.istore 4, 2) := by decide +kernel
theorem dX2_markOfMove_23 : decode cX2_markOfMove 23 = .ok (.iinc 5 (-1), 3) := by decide +kernel
theorem dX2_markOfMove_26 : decode cX2_markOfMove 26 = .ok (.goto (-18), 3) := by decide +kernel
theorem dX2_markOfMove_29 : decode cX2_markOfMove 29 = .ok (.aload_n 0, 1) := by decide +kernel
theorem dX2_markOfMove_30 : decode cX2_markOfMove 30 = .ok (.getfield 30, 3) := by decide +kernel
theorem dX2_markOfMove_33 : decode cX2_markOfMove 33 = .ok (.iload 4, 2) := by decide +kernel
theorem dX2_markOfMove_35 : decode cX2_markOfMove 35 = .ok (.iaload, 1) := by decide +kernel
theorem dX2_markOfMove_36 : decode cX2_markOfMove 36 = .ok (.ireturn, 1) := by decide +kernel
theorem dX2_roundsToRest_0 : decode cX2_roundsToRest 0 = .ok (.lconst 1, 1) := by decide +kernel
theorem dX2_roundsToRest_1 : decode cX2_roundsToRest 1 = .ok (.lstore_n 3, 1) := by decide +kernel
theorem dX2_roundsToRest_2 : decode cX2_roundsToRest 2 = .ok (.aload_n 0, 1) := by decide +kernel
theorem dX2_roundsToRest_3 : decode cX2_roundsToRest 3 = .ok (.invokevirtual 68, 3) := by decide +kernel
theorem dX2_roundsToRest_6 : decode cX2_roundsToRest 6 = .ok (.iconst 0, 1) := by decide +kernel
theorem dX2_roundsToRest_7 : decode cX2_roundsToRest 7 = .ok (.istore 5, 2) := by decide +kernel
theorem dX2_roundsToRest_9 : decode cX2_roundsToRest 9 = .ok (.iload 5, 2) := by decide +kernel
theorem dX2_roundsToRest_11 : decode cX2_roundsToRest 11 = .ok (.aload_n 0, 1) := by decide +kernel
theorem dX2_roundsToRest_12 : decode cX2_roundsToRest 12 = .ok (.getfield 15, 3) := by decide +kernel
theorem dX2_roundsToRest_15 : decode cX2_roundsToRest 15 = .ok (.iload_n 2, 1) := by decide +kernel
theorem dX2_roundsToRest_16 : decode cX2_roundsToRest 16 = .ok (.iaload, 1) := by decide +kernel
theorem dX2_roundsToRest_17 : decode cX2_roundsToRest 17 = .ok (.if_icmp .ge 53, 3) := by decide +kernel
theorem dX2_roundsToRest_20 : decode cX2_roundsToRest 20 = .ok (.aload_n 0, 1) := by decide +kernel
theorem dX2_roundsToRest_21 : decode cX2_roundsToRest 21 = .ok (.getfield 21, 3) := by decide +kernel
theorem dX2_roundsToRest_24 : decode cX2_roundsToRest 24 = .ok (.iload 5, 2) := by decide +kernel
theorem dX2_roundsToRest_26 : decode cX2_roundsToRest 26 = .ok (.iaload, 1) := by decide +kernel
theorem dX2_roundsToRest_27 : decode cX2_roundsToRest 27 = .ok (.ifCond .ge 26, 3) := by decide +kernel
theorem dX2_roundsToRest_30 : decode cX2_roundsToRest 30 = .ok (.aload_n 0, 1) := by decide +kernel
theorem dX2_roundsToRest_31 : decode cX2_roundsToRest 31 = .ok (.aload_n 1, 1) := by decide +kernel
theorem dX2_roundsToRest_32 : decode cX2_roundsToRest 32 = .ok (.iload_n 2, 1) := by decide +kernel
theorem dX2_roundsToRest_33 : decode cX2_roundsToRest 33 = .ok (.iload 5, 2) := by decide +kernel
theorem dX2_roundsToRest_35 : decode cX2_roundsToRest 35 = .ok (.invokevirtual 75, 3) := by decide +kernel
theorem dX2_roundsToRest_38 : decode cX2_roundsToRest 38 = .ok (.i2l, 1) := by decide +kernel
theorem dX2_roundsToRest_39 : decode cX2_roundsToRest 39 = .ok (.lstore 6, 2) := by decide +kernel
theorem dX2_roundsToRest_41 : decode cX2_roundsToRest 41 = .ok (.lload_n 3, 1) := by decide +kernel
theorem dX2_roundsToRest_42 : decode cX2_roundsToRest 42 = .ok (.lload_n 3, 1) := by decide +kernel
theorem dX2_roundsToRest_43 : decode cX2_roundsToRest 43 = .ok (.lload 6, 2) := by decide +kernel
theorem dX2_roundsToRest_45 : decode cX2_roundsToRest 45 = .ok (.invokestatic 79, 3) := by decide +kernel
theorem dX2_roundsToRest_48 : decode cX2_roundsToRest 48 = .ok (.ldiv, 1) := by decide +kernel
theorem dX2_roundsToRest_49 : decode cX2_roundsToRest 49 = .ok (.lload 6, 2) := by decide +kernel
theorem dX2_roundsToRest_51 : decode cX2_roundsToRest 51 = .ok (.lmul, 1) := by decide +kernel
theorem dX2_roundsToRest_52 : decode cX2_roundsToRest 52 = .ok (.lstore_n 3, 1) := by decide +kernel
theorem dX2_roundsToRest_53 : decode cX2_roundsToRest 53 = .ok (.lload_n 3, 1) := by decide +kernel
theorem dX2_roundsToRest_54 : decode cX2_roundsToRest 54 = .ok (.ldc2_w 83, 3) := by decide +kernel
theorem dX2_roundsToRest_57 : decode cX2_roundsToRest 57 = .ok (.lcmp, 1) := by decide +kernel
theorem dX2_roundsToRest_58 : decode cX2_roundsToRest 58 = .ok (.ifCond .le 6, 3) := by decide +kernel
theorem dX2_roundsToRest_61 : decode cX2_roundsToRest 61 = .ok (.bipush (-7), 2) := by decide +kernel
theorem dX2_roundsToRest_63 : decode cX2_roundsToRest 63 = .ok (.ireturn, 1) := by decide +kernel
theorem dX2_roundsToRest_64 : decode cX2_roundsToRest 64 = .ok (.iinc 5 1, 3) := by decide +kernel
theorem dX2_roundsToRest_67 : decode cX2_roundsToRest 67 = .ok (.goto (-58), 3) := by decide +kernel
theorem dX2_roundsToRest_70 : decode cX2_roundsToRest 70 = .ok (.lload_n 3, 1) := by decide +kernel
theorem dX2_roundsToRest_71 : decode cX2_roundsToRest 71 = .ok (.l2i, 1) := by decide +kernel
theorem dX2_roundsToRest_72 : decode cX2_roundsToRest 72 = .ok (.ireturn, 1) := by decide +kernel
theorem dX2_ringLength_0 : decode cX2_ringLength 0 = .ok (.iconst 0, 1) := by decide +kernel
theorem dX2_ringLength_1 : decode cX2_ringLength 1 = .ok (.istore 4, 2) := by decide +kernel
theorem dX2_ringLength_3 : decode cX2_ringLength 3 = .ok (.iload_n 3, 1) := by decide +kernel
theorem dX2_ringLength_4 : decode cX2_ringLength 4 = .ok (.istore 5, 2) := by decide +kernel
theorem dX2_ringLength_6 : decode cX2_ringLength 6 = .ok (.iload 4, 2) := by decide +kernel
theorem dX2_ringLength_8 : decode cX2_ringLength 8 = .ok (.aload_n 0, 1) := by decide +kernel
theorem dX2_ringLength_9 : decode cX2_ringLength 9 = .ok (.getfield 15, 3) := by decide +kernel
theorem dX2_ringLength_12 : decode cX2_ringLength 12 = .ok (.iload_n 2, 1) := by decide +kernel
theorem dX2_ringLength_13 : decode cX2_ringLength 13 = .ok (.iaload, 1) := by decide +kernel
theorem dX2_ringLength_14 : decode cX2_ringLength 14 = .ok (.if_icmp .ge 72, 3) := by decide +kernel
theorem dX2_ringLength_17 : decode cX2_ringLength 17 = .ok (.aload_n 0, 1) := by decide +kernel
theorem dX2_ringLength_18 : decode cX2_ringLength 18 = .ok (.getfield 21, 3) := by decide +kernel
theorem dX2_ringLength_21 : decode cX2_ringLength 21 = .ok (.iload 5, 2) := by decide +kernel
theorem dX2_ringLength_23 : decode cX2_ringLength 23 = .ok (.iaload, 1) := by decide +kernel
theorem dX2_ringLength_24 : decode cX2_ringLength 24 = .ok (.ifCond .ge 62, 3) := by decide +kernel
theorem dX2_ringLength_27 : decode cX2_ringLength 27 = .ok (.aload_n 0, 1) := by decide +kernel
theorem dX2_ringLength_28 : decode cX2_ringLength 28 = .ok (.getfield 21, 3) := by decide +kernel
theorem dX2_ringLength_31 : decode cX2_ringLength 31 = .ok (.iload 5, 2) := by decide +kernel
theorem dX2_ringLength_33 : decode cX2_ringLength 33 = .ok (.iconst 0, 1) := by decide +kernel
theorem dX2_ringLength_34 : decode cX2_ringLength 34 = .ok (.iastore, 1) := by decide +kernel
theorem dX2_ringLength_35 : decode cX2_ringLength 35 = .ok (.iconst 0, 1) := by decide +kernel
theorem dX2_ringLength_36 : decode cX2_ringLength 36 = .ok (.istore 6, 2) := by decide +kernel
theorem dX2_ringLength_38 : decode cX2_ringLength 38 = .ok (.iload 6, 2) := by decide +kernel
theorem dX2_ringLength_40 : decode cX2_ringLength 40 = .ok (.aload_n 1, 1) := by decide +kernel
theorem dX2_ringLength_41 : decode cX2_ringLength 41 = .ok (.getfield 85, 3) := by decide +kernel
theorem dX2_ringLength_44 : decode cX2_ringLength 44 = .ok (.if_icmp .ge 36, 3) := by decide +kernel
theorem dX2_ringLength_47 : decode cX2_ringLength 47 = .ok (.aload_n 0, 1) := by decide +kernel
theorem dX2_ringLength_48 : decode cX2_ringLength 48 = .ok (.getfield 11, 3) := by decide +kernel
theorem dX2_ringLength_51 : decode cX2_ringLength 51 = .ok (.aload_n 1, 1) := by decide +kernel
theorem dX2_ringLength_52 : decode cX2_ringLength 52 = .ok (.iload 6, 2) := by decide +kernel
theorem dX2_ringLength_54 : decode cX2_ringLength 54 = .ok (.invokevirtual 90, 3) := by decide +kernel
theorem dX2_ringLength_57 : decode cX2_ringLength 57 = .ok (.sipush 512, 3) := by decide +kernel
theorem dX2_ringLength_60 : decode cX2_ringLength 60 = .ok (.imul, 1) := by decide +kernel
theorem dX2_ringLength_61 : decode cX2_ringLength 61 = .ok (.aload_n 0, 1) := by decide +kernel
theorem dX2_ringLength_62 : decode cX2_ringLength 62 = .ok (.getfield 18, 3) := by decide +kernel
theorem dX2_ringLength_65 : decode cX2_ringLength 65 = .ok (.iload_n 2, 1) := by decide +kernel
theorem dX2_ringLength_66 : decode cX2_ringLength 66 = .ok (.iaload, 1) := by decide +kernel
theorem dX2_ringLength_67 : decode cX2_ringLength 67 = .ok (.iadd, 1) := by decide +kernel
theorem dX2_ringLength_68 : decode cX2_ringLength 68 = .ok (.iload 5, 2) := by decide +kernel
theorem dX2_ringLength_70 : decode cX2_ringLength 70 = .ok (.iadd, 1) := by decide +kernel
theorem dX2_ringLength_71 : decode cX2_ringLength 71 = .ok (.iaload, 1) := by decide +kernel
theorem dX2_ringLength_72 : decode cX2_ringLength 72 = .ok (.istore 5, 2) := by decide +kernel
theorem dX2_ringLength_74 : decode cX2_ringLength 74 = .ok (.iinc 6 1, 3) := by decide +kernel
theorem dX2_ringLength_77 : decode cX2_ringLength 77 = .ok (.goto (-39), 3) := by decide +kernel
theorem dX2_ringLength_80 : decode cX2_ringLength 80 = .ok (.iinc 4 1, 3) := by decide +kernel
theorem dX2_ringLength_83 : decode cX2_ringLength 83 = .ok (.goto (-77), 3) := by decide +kernel
theorem dX2_ringLength_86 : decode cX2_ringLength 86 = .ok (.iload 4, 2) := by decide +kernel
theorem dX2_ringLength_88 : decode cX2_ringLength 88 = .ok (.iconst 1, 1) := by decide +kernel
theorem dX2_ringLength_89 : decode cX2_ringLength 89 = .ok (.invokestatic 94, 3) := by decide +kernel
theorem dX2_ringLength_92 : decode cX2_ringLength 92 = .ok (.ireturn, 1) := by decide +kernel
theorem dX2_commonDivisor_0 : decode cX2_commonDivisor 0 = .ok (.lload_n 0, 1) := by decide +kernel
theorem dX2_commonDivisor_1 : decode cX2_commonDivisor 1 = .ok (.lstore 4, 2) := by decide +kernel
theorem dX2_commonDivisor_3 : decode cX2_commonDivisor 3 = .ok (.lload_n 2, 1) := by decide +kernel
theorem dX2_commonDivisor_4 : decode cX2_commonDivisor 4 = .ok (.lstore 6, 2) := by decide +kernel
theorem dX2_commonDivisor_6 : decode cX2_commonDivisor 6 = .ok (.iconst 0, 1) := by decide +kernel
theorem dX2_commonDivisor_7 : decode cX2_commonDivisor 7 = .ok (.istore 8, 2) := by decide +kernel
theorem dX2_commonDivisor_9 : decode cX2_commonDivisor 9 = .ok (.iload 8, 2) := by decide +kernel
theorem dX2_commonDivisor_11 : decode cX2_commonDivisor 11 = .ok (.bipush 100, 2) := by decide +kernel
theorem dX2_commonDivisor_13 : decode cX2_commonDivisor 13 = .ok (.if_icmp .ge 31, 3) := by decide +kernel
theorem dX2_commonDivisor_16 : decode cX2_commonDivisor 16 = .ok (.lload 6, 2) := by decide +kernel
theorem dX2_commonDivisor_18 : decode cX2_commonDivisor 18 = .ok (.lconst 0, 1) := by decide +kernel
theorem dX2_commonDivisor_19 : decode cX2_commonDivisor 19 = .ok (.lcmp, 1) := by decide +kernel
theorem dX2_commonDivisor_20 : decode cX2_commonDivisor 20 = .ok (.ifCond .le 24, 3) := by decide +kernel
theorem dX2_commonDivisor_23 : decode cX2_commonDivisor 23 = .ok (.lload 4, 2) := by decide +kernel
theorem dX2_commonDivisor_25 : decode cX2_commonDivisor 25 = .ok (.lload 6, 2) := by decide +kernel
theorem dX2_commonDivisor_27 : decode cX2_commonDivisor 27 = .ok (.lrem, 1) := by decide +kernel
theorem dX2_commonDivisor_28 : decode cX2_commonDivisor 28 = .ok (.lstore 9, 2) := by decide +kernel
theorem dX2_commonDivisor_30 : decode cX2_commonDivisor 30 = .ok (.lload 6, 2) := by decide +kernel
theorem dX2_commonDivisor_32 : decode cX2_commonDivisor 32 = .ok (.lstore 4, 2) := by decide +kernel
theorem dX2_commonDivisor_34 : decode cX2_commonDivisor 34 = .ok (.lload 9, 2) := by decide +kernel
theorem dX2_commonDivisor_36 : decode cX2_commonDivisor 36 = .ok (.lstore 6, 2) := by decide +kernel
theorem dX2_commonDivisor_38 : decode cX2_commonDivisor 38 = .ok (.iinc 8 1, 3) := by decide +kernel
theorem dX2_commonDivisor_41 : decode cX2_commonDivisor 41 = .ok (.goto (-32), 3) := by decide +kernel
theorem dX2_commonDivisor_44 : decode cX2_commonDivisor 44 = .ok (.lload 4, 2) := by decide +kernel
theorem dX2_commonDivisor_46 : decode cX2_commonDivisor 46 = .ok (.lconst 1, 1) := by decide +kernel
theorem dX2_commonDivisor_47 : decode cX2_commonDivisor 47 = .ok (.invokestatic 100, 3) := by decide +kernel
theorem dX2_commonDivisor_50 : decode cX2_commonDivisor 50 = .ok (.lreturn, 1) := by decide +kernel
theorem dX2_packed_0 : decode cX2_packed 0 = .ok (.lconst 0, 1) := by decide +kernel
theorem dX2_packed_1 : decode cX2_packed 1 = .ok (.lstore_n 3, 1) := by decide +kernel
theorem dX2_packed_2 : decode cX2_packed 2 = .ok (.iconst 0, 1) := by decide +kernel
theorem dX2_packed_3 : decode cX2_packed 3 = .ok (.istore 5, 2) := by decide +kernel
theorem dX2_packed_5 : decode cX2_packed 5 = .ok (.iload 5, 2) := by decide +kernel
theorem dX2_packed_7 : decode cX2_packed 7 = .ok (.aload_n 0, 1) := by decide +kernel
theorem dX2_packed_8 : decode cX2_packed 8 = .ok (.getfield 15, 3) := by decide +kernel
theorem dX2_packed_11 : decode cX2_packed 11 = .ok (.iload_n 2, 1) := by decide +kernel
theorem dX2_packed_12 : decode cX2_packed 12 = .ok (.iaload, 1) := by decide +kernel
theorem dX2_packed_13 : decode cX2_packed 13 = .ok (.if_icmp .ge 38, 3) := by decide +kernel
theorem dX2_packed_16 : decode cX2_packed 16 = .ok (.lload_n 3, 1) := by decide +kernel
theorem dX2_packed_17 : decode cX2_packed 17 = .ok (.aload_n 0, 1) := by decide +kernel
theorem dX2_packed_18 : decode cX2_packed 18 = .ok (.getfield 11, 3) := by decide +kernel
theorem dX2_packed_21 : decode cX2_packed 21 = .ok (.iload_n 1, 1) := by decide +kernel
theorem dX2_packed_22 : decode cX2_packed 22 = .ok (.sipush 512, 3) := by decide +kernel
theorem dX2_packed_25 : decode cX2_packed 25 = .ok (.imul, 1) := by decide +kernel
theorem dX2_packed_26 : decode cX2_packed 26 = .ok (.aload_n 0, 1) := by decide +kernel
theorem dX2_packed_27 : decode cX2_packed 27 = .ok (.getfield 18, 3) := by decide +kernel
theorem dX2_packed_30 : decode cX2_packed 30 = .ok (.iload_n 2, 1) := by decide +kernel
theorem dX2_packed_31 : decode cX2_packed 31 = .ok (.iaload, 1) := by decide +kernel
theorem dX2_packed_32 : decode cX2_packed 32 = .ok (.iadd, 1) := by decide +kernel
theorem dX2_packed_33 : decode cX2_packed 33 = .ok (.iload 5, 2) := by decide +kernel
theorem dX2_packed_35 : decode cX2_packed 35 = .ok (.iadd, 1) := by decide +kernel
theorem dX2_packed_36 : decode cX2_packed 36 = .ok (.iaload, 1) := by decide +kernel
theorem dX2_packed_37 : decode cX2_packed 37 = .ok (.i2l, 1) := by decide +kernel
theorem dX2_packed_38 : decode cX2_packed 38 = .ok (.iconst 4, 1) := by decide +kernel
theorem dX2_packed_39 : decode cX2_packed 39 = .ok (.iload 5, 2) := by decide +kernel
theorem dX2_packed_41 : decode cX2_packed 41 = .ok (.imul, 1) := by decide +kernel
theorem dX2_packed_42 : decode cX2_packed 42 = .ok (.lshl, 1) := by decide +kernel
theorem dX2_packed_43 : decode cX2_packed 43 = .ok (.lor, 1) := by decide +kernel
theorem dX2_packed_44 : decode cX2_packed 44 = .ok (.lstore_n 3, 1) := by decide +kernel
theorem dX2_packed_45 : decode cX2_packed 45 = .ok (.iinc 5 1, 3) := by decide +kernel
theorem dX2_packed_48 : decode cX2_packed 48 = .ok (.goto (-43), 3) := by decide +kernel
theorem dX2_packed_51 : decode cX2_packed 51 = .ok (.lload_n 3, 1) := by decide +kernel
theorem dX2_packed_52 : decode cX2_packed 52 = .ok (.lreturn, 1) := by decide +kernel
theorem dX3_restart_0 : decode cX3_restart 0 = .ok (.aload_n 0, 1) := by decide +kernel
theorem dX3_restart_1 : decode cX3_restart 1 = .ok (.iload_n 1, 1) := by decide +kernel
theorem dX3_restart_2 : decode cX3_restart 2 = .ok (.putfield 31, 3) := by decide +kernel
theorem dX3_restart_5 : decode cX3_restart 5 = .ok (.aload_n 0, 1) := by decide +kernel
theorem dX3_restart_6 : decode cX3_restart 6 = .ok (.iconst 0, 1) := by decide +kernel
theorem dX3_restart_7 : decode cX3_restart 7 = .ok (.putfield 34, 3) := by decide +kernel
theorem dX3_restart_10 : decode cX3_restart 10 = .ok (.aload_n 0, 1) := by decide +kernel
theorem dX3_restart_11 : decode cX3_restart 11 = .ok (.invokevirtual 44, 3) := by decide +kernel
theorem dX3_restart_14 : decode cX3_restart 14 = .ok (.return_, 1) := by decide +kernel
theorem dX3_isState_0 : decode cX3_isState 0 = .ok (.iload_n 1, 1) := by decide +kernel
theorem dX3_isState_1 : decode cX3_isState 1 = .ok (.ifCond .lt 15, 3) := by decide +kernel
theorem dX3_isState_4 : decode cX3_isState 4 = .ok (.iload_n 1, 1) := by decide +kernel
theorem dX3_isState_5 : decode cX3_isState 5 = .ok (.aload_n 0, 1) := by decide +kernel
theorem dX3_isState_6 : decode cX3_isState 6 = .ok (.getfield 34, 3) := by decide +kernel
theorem dX3_isState_9 : decode cX3_isState 9 = .ok (.if_icmp .ge 7, 3) := by decide +kernel
theorem dX3_isState_12 : decode cX3_isState 12 = .ok (.iconst 1, 1) := by decide +kernel
theorem dX3_isState_13 : decode cX3_isState 13 = .ok (.goto 4, 3) := by decide +kernel
theorem dX3_isState_16 : decode cX3_isState 16 = .ok (.iconst 0, 1) := by decide +kernel
theorem dX3_isState_17 : decode cX3_isState 17 = .ok (.ireturn, 1) := by decide +kernel
theorem dX3_isLetter_0 : decode cX3_isLetter 0 = .ok (.iload_n 1, 1) := by decide +kernel
theorem dX3_isLetter_1 : decode cX3_isLetter 1 = .ok (.ifCond .lt 15, 3) := by decide +kernel
theorem dX3_isLetter_4 : decode cX3_isLetter 4 = .ok (.iload_n 1, 1) := by decide +kernel
theorem dX3_isLetter_5 : decode cX3_isLetter 5 = .ok (.aload_n 0, 1) := by decide +kernel
theorem dX3_isLetter_6 : decode cX3_isLetter 6 = .ok (.getfield 31, 3) := by decide +kernel
theorem dX3_isLetter_9 : decode cX3_isLetter 9 = .ok (.if_icmp .ge 7, 3) := by decide +kernel
theorem dX3_isLetter_12 : decode cX3_isLetter 12 = .ok (.iconst 1, 1) := by decide +kernel
theorem dX3_isLetter_13 : decode cX3_isLetter 13 = .ok (.goto 4, 3) := by decide +kernel
theorem dX3_isLetter_16 : decode cX3_isLetter 16 = .ok (.iconst 0, 1) := by decide +kernel
theorem dX3_isLetter_17 : decode cX3_isLetter 17 = .ok (.ireturn, 1) := by decide +kernel
theorem dX3_isBack_0 : decode cX3_isBack 0 = .ok (.aload_n 0, 1) := by decide +kernel
theorem dX3_isBack_1 : decode cX3_isBack 1 = .ok (.getfield 37, 3) := by decide +kernel
theorem dX3_isBack_4 : decode cX3_isBack 4 = .ok (.iload_n 1, 1) := by decide +kernel
theorem dX3_isBack_5 : decode cX3_isBack 5 = .ok (.ishr, 1) := by decide +kernel
theorem dX3_isBack_6 : decode cX3_isBack 6 = .ok (.iconst 1, 1) := by decide +kernel
theorem dX3_isBack_7 : decode cX3_isBack 7 = .ok (.iand, 1) := by decide +kernel
theorem dX3_isBack_8 : decode cX3_isBack 8 = .ok (.iconst 1, 1) := by decide +kernel
theorem dX3_isBack_9 : decode cX3_isBack 9 = .ok (.if_icmp .ne 7, 3) := by decide +kernel
theorem dX3_isBack_12 : decode cX3_isBack 12 = .ok (.iconst 1, 1) := by decide +kernel
theorem dX3_isBack_13 : decode cX3_isBack 13 = .ok (.goto 4, 3) := by decide +kernel
theorem dX3_isBack_16 : decode cX3_isBack 16 = .ok (.iconst 0, 1) := by decide +kernel
theorem dX3_isBack_17 : decode cX3_isBack 17 = .ok (.ireturn, 1) := by decide +kernel
theorem dX3_canRead_0 : decode cX3_canRead 0 = .ok (.iconst 0, 1) := by decide +kernel
theorem dX3_canRead_1 : decode cX3_canRead 1 = .ok (.istore_n 3, 1) := by decide +kernel
theorem dX3_canRead_2 : decode cX3_canRead 2 = .ok (.iload_n 3, 1) := by decide +kernel
theorem dX3_canRead_3 : decode cX3_canRead 3 = .ok (.aload_n 0, 1) := by decide +kernel
theorem dX3_canRead_4 : decode cX3_canRead 4 = .ok (.getfield 31, 3) := by decide +kernel
theorem dX3_canRead_7 : decode cX3_canRead 7 = .ok (.if_icmp .ge 56, 3) := by decide +kernel
theorem dX3_canRead_10 : decode cX3_canRead 10 = .ok (.aload_n 1, 1) := by decide +kernel
theorem dX3_canRead_11 : decode cX3_canRead 11 = .ok (.iload_n 2, 1) := by decide +kernel
theorem dX3_canRead_12 : decode cX3_canRead 12 = .ok (.iload_n 3, 1) := by decide +kernel
theorem dX3_canRead_13 : decode cX3_canRead 13 = .ok (.invokevirtual 47, 3) := by decide +kernel
theorem dX3_canRead_16 : decode cX3_canRead 16 = .ok (.ifCond .eq 41, 3) := by decide +kernel
theorem dX3_canRead_19 : decode cX3_canRead 19 = .ok (.iload_n 2, 1) := by decide +kernel
theorem dX3_canRead_20 : decode cX3_canRead 20 = .ok (.iconst 2, 1) := by decide +kernel
theorem dX3_canRead_21 : decode cX3_canRead 21 = .ok (.iload_n 3, 1) := by decide +kernel
theorem dX3_canRead_22 : decode cX3_canRead 22 = .ok (.imul, 1) := by decide +kernel
theorem dX3_canRead_23 : decode cX3_canRead 23 = .ok (.iadd, 1) := by decide +kernel
theorem dX3_canRead_24 : decode cX3_canRead 24 = .ok (.istore 4, 2) := by decide +kernel
theorem dX3_canRead_26 : decode cX3_canRead 26 = .ok (.aload_n 0, 1) := by decide +kernel
theorem dX3_canRead_27 : decode cX3_canRead 27 = .ok (.aload_n 1, 1) := by decide +kernel
theorem dX3_canRead_28 : decode cX3_canRead 28 = .ok (.getfield 53, 3) := by decide +kernel
theorem dX3_canRead_31 : decode cX3_canRead 31 = .ok (.iload 4, 2) := by decide +kernel
theorem dX3_canRead_33 : decode cX3_canRead 33 = .ok (.iaload, 1) := by decide +kernel
theorem dX3_canRead_34 : decode cX3_canRead 34 = .ok (.invokevirtual 56, 3) := by decide +kernel
theorem dX3_canRead_37 : decode cX3_canRead 37 = .ok (.ifCond .eq 18, 3) := by decide +kernel
theorem dX3_canRead_40 : decode cX3_canRead 40 = .ok (.aload_n 1, 1) := by decide +kernel
theorem dX3_canRead_41 : decode cX3_canRead 41 = .ok (.getfield 53, 3) := by decide +kernel
theorem dX3_canRead_44 : decode cX3_canRead 44 = .ok (.iload 4, 2) := by decide +kernel
theorem dX3_canRead_46 : decode cX3_canRead 46 = .ok (.iconst 1, 1) := by decide +kernel
theorem dX3_canRead_47 : decode cX3_canRead 47 = .ok (.iadd, 1) := by decide +kernel
theorem dX3_canRead_48 : decode cX3_canRead 48 = .ok (.iaload, 1) := by decide +kernel
theorem dX3_canRead_49 : decode cX3_canRead 49 = .ok (.invokestatic 60, 3) := by decide +kernel
theorem dX3_canRead_52 : decode cX3_canRead 52 = .ok (.ifCond .ne 5, 3) := by decide +kernel
theorem dX3_canRead_55 : decode cX3_canRead 55 = .ok (.iconst 0, 1) := by decide +kernel
theorem dX3_canRead_56 : decode cX3_canRead 56 = .ok (.ireturn, 1) := by decide +kernel
theorem dX3_canRead_57 : decode cX3_canRead 57 = .ok (.iinc 3 1, 3) := by decide +kernel
theorem dX3_canRead_60 : decode cX3_canRead 60 = .ok (.goto (-58), 3) := by decide +kernel
theorem dX3_canRead_63 : decode cX3_canRead 63 = .ok (.iconst 1, 1) := by decide +kernel
theorem dX3_canRead_64 : decode cX3_canRead 64 = .ok (.ireturn, 1) := by decide +kernel
theorem dX3_read_0 : decode cX3_read 0 = .ok (.iconst 0, 1) := by decide +kernel
theorem dX3_read_1 : decode cX3_read 1 = .ok (.istore_n 3, 1) := by decide +kernel
theorem dX3_read_2 : decode cX3_read 2 = .ok (.iload_n 3, 1) := by decide +kernel
theorem dX3_read_3 : decode cX3_read 3 = .ok (.aload_n 0, 1) := by decide +kernel
theorem dX3_read_4 : decode cX3_read 4 = .ok (.getfield 31, 3) := by decide +kernel
theorem dX3_read_7 : decode cX3_read 7 = .ok (.if_icmp .ge 81, 3) := by decide +kernel
theorem dX3_read_10 : decode cX3_read 10 = .ok (.aload_n 1, 1) := by decide +kernel
theorem dX3_read_11 : decode cX3_read 11 = .ok (.iload_n 2, 1) := by decide +kernel
theorem dX3_read_12 : decode cX3_read 12 = .ok (.iload_n 3, 1) := by decide +kernel
theorem dX3_read_13 : decode cX3_read 13 = .ok (.invokevirtual 47, 3) := by decide +kernel
theorem dX3_read_16 : decode cX3_read 16 = .ok (.istore 4, 2) := by decide +kernel
theorem dX3_read_18 : decode cX3_read 18 = .ok (.aload_n 0, 1) := by decide +kernel
theorem dX3_read_19 : decode cX3_read 19 = .ok (.getfield 34, 3) := by decide +kernel
theorem dX3_read_22 : decode cX3_read 22 = .ok (.iconst 4, 1) := by decide +kernel
theorem dX3_read_23 : decode cX3_read 23 = .ok (.imul, 1) := by decide +kernel
theorem dX3_read_24 : decode cX3_read 24 = .ok (.iload_n 3, 1) := by decide +kernel
theorem dX3_read_25 : decode cX3_read 25 = .ok (.iadd, 1) := by decide +kernel
theorem dX3_read_26 : decode cX3_read 26 = .ok (.istore 5, 2) := by decide +kernel
theorem dX3_read_28 : decode cX3_read 28 = .ok (.aload_n 0, 1) := by decide +kernel
theorem dX3_read_29 : decode cX3_read 29 = .ok (.getfield 9, 3) := by decide +kernel
theorem dX3_read_32 : decode cX3_read 32 = .ok (.iload 5, 2) := by decide +kernel
theorem dX3_read_34 : decode cX3_read 34 = .ok (.iload 4, 2) := by decide +kernel
theorem dX3_read_36 : decode cX3_read 36 = .ok (.ifCond .eq 16, 3) := by decide +kernel
theorem dX3_read_39 : decode cX3_read 39 = .ok (.aload_n 1, 1) := by decide +kernel
theorem dX3_read_40 : decode cX3_read 40 = .ok (.getfield 53, 3) := by decide +kernel
theorem dX3_read_43 : decode cX3_read 43 = .ok (.iload_n 2, 1) := by decide +kernel
theorem dX3_read_44 : decode cX3_read 44 = .ok (.iconst 2, 1) := by decide +kernel
theorem dX3_read_45 : decode cX3_read 45 = .ok (.iload_n 3, 1) := by decide +kernel
theorem dX3_read_46 : decode cX3_read 46 = .ok (.imul, 1) := by decide +kernel
theorem dX3_read_47 : decode cX3_read 47 = .ok (.iadd, 1) := by decide +kernel
theorem dX3_read_48 : decode cX3_read 48 = .ok (.iaload, 1) := by decide +kernel
theorem dX3_read_49 : decode cX3_read 49 = .ok (.goto 4, 3) := by decide +kernel
theorem dX3_read_52 : decode cX3_read 52 = .ok (.iload_n 3, 1) := by decide +kernel
theorem dX3_read_53 : decode cX3_read 53 = .ok (.iastore, 1) := by decide +kernel
theorem dX3_read_54 : decode cX3_read 54 = .ok (.aload_n 0, 1) := by decide +kernel
theorem dX3_read_55 : decode cX3_read 55 = .ok (.getfield 15, 3) := by decide +kernel
theorem dX3_read_58 : decode cX3_read 58 = .ok (.iload 5, 2) := by decide +kernel
theorem dX3_read_60 : decode cX3_read 60 = .ok (.iload 4, 2) := by decide +kernel
theorem dX3_read_62 : decode cX3_read 62 = .ok (.ifCond .eq 18, 3) := by decide +kernel
theorem dX3_read_65 : decode cX3_read 65 = .ok (.aload_n 1, 1) := by decide +kernel
theorem dX3_read_66 : decode cX3_read 66 = .ok (.getfield 53, 3) := by decide +kernel
theorem dX3_read_69 : decode cX3_read 69 = .ok (.iload_n 2, 1) := by decide +kernel
theorem dX3_read_70 : decode cX3_read 70 = .ok (.iconst 2, 1) := by decide +kernel
theorem dX3_read_71 : decode cX3_read 71 = .ok (.iload_n 3, 1) := by decide +kernel
theorem dX3_read_72 : decode cX3_read 72 = .ok (.imul, 1) := by decide +kernel
theorem dX3_read_73 : decode cX3_read 73 = .ok (.iadd, 1) := by decide +kernel
theorem dX3_read_74 : decode cX3_read 74 = .ok (.iconst 1, 1) := by decide +kernel
theorem dX3_read_75 : decode cX3_read 75 = .ok (.iadd, 1) := by decide +kernel
theorem dX3_read_76 : decode cX3_read 76 = .ok (.iaload, 1) := by decide +kernel
theorem dX3_read_77 : decode cX3_read 77 = .ok (.goto 4, 3) := by decide +kernel
theorem dX3_read_80 : decode cX3_read 80 = .ok (.iconst (-1), 1) := by decide +kernel
theorem dX3_read_81 : decode cX3_read 81 = .ok (.iastore, 1) := by decide +kernel
theorem dX3_read_82 : decode cX3_read 82 = .ok (.iinc 3 1, 3) := by decide +kernel
theorem dX3_read_85 : decode cX3_read 85 = .ok (.goto (-83), 3) := by decide +kernel
theorem dX3_read_88 : decode cX3_read 88 = .ok (.aload_n 0, 1) := by decide +kernel
theorem dX3_read_89 : decode cX3_read 89 = .ok (.dup, 1) := by decide +kernel
theorem dX3_read_90 : decode cX3_read 90 = .ok (.getfield 34, 3) := by decide +kernel
theorem dX3_read_93 : decode cX3_read 93 = .ok (.iconst 1, 1) := by decide +kernel
theorem dX3_read_94 : decode cX3_read 94 = .ok (.iadd, 1) := by decide +kernel
theorem dX3_read_95 : decode cX3_read 95 = .ok (.putfield 34, 3) := by decide +kernel
theorem dX3_read_98 : decode cX3_read 98 = .ok (.aload_n 0, 1) := by decide +kernel
theorem dX3_read_99 : decode cX3_read 99 = .ok (.invokevirtual 44, 3) := by decide +kernel
theorem dX3_read_102 : decode cX3_read 102 = .ok (.return_, 1) := by decide +kernel
theorem dX3_rewire_0 : decode cX3_rewire 0 = .ok (.aload_n 0, 1) := by decide +kernel
theorem dX3_rewire_1 : decode cX3_rewire 1 = .ok (.getfield 9, 3) := by decide +kernel
theorem dX3_rewire_4 : decode cX3_rewire 4 = .ok (.iload_n 1, 1) := by decide +kernel
theorem dX3_rewire_5 : decode cX3_rewire 5 = .ok (.iconst 4, 1) := by decide +kernel
theorem dX3_rewire_6 : decode cX3_rewire 6 = .ok (.imul, 1) := by decide +kernel
theorem dX3_rewire_7 : decode cX3_rewire 7 = .ok (.iload_n 2, 1) := by decide +kernel
theorem dX3_rewire_8 : decode cX3_rewire 8 = .ok (.iadd, 1) := by decide +kernel
theorem dX3_rewire_9 : decode cX3_rewire 9 = .ok (.iload_n 3, 1) := by decide +kernel
theorem dX3_rewire_10 : decode cX3_rewire 10 = .ok (.iastore, 1) := by decide +kernel
theorem dX3_rewire_11 : decode cX3_rewire 11 = .ok (.aload_n 0, 1) := by decide +kernel
theorem dX3_rewire_12 : decode cX3_rewire 12 = .ok (.getfield 15, 3) := by decide +kernel
theorem dX3_rewire_15 : decode cX3_rewire 15 = .ok (.iload_n 1, 1) := by decide +kernel
theorem dX3_rewire_16 : decode cX3_rewire 16 = .ok (.iconst 4, 1) := by decide +kernel
theorem dX3_rewire_17 : decode cX3_rewire 17 = .ok (.imul, 1) := by decide +kernel
theorem dX3_rewire_18 : decode cX3_rewire 18 = .ok (.iload_n 2, 1) := by decide +kernel
theorem dX3_rewire_19 : decode cX3_rewire 19 = .ok (.iadd, 1) := by decide +kernel
theorem dX3_rewire_20 : decode cX3_rewire 20 = .ok (.iload 4, 2) := by decide +kernel
theorem dX3_rewire_22 : decode cX3_rewire 22 = .ok (.iastore, 1) := by decide +kernel
theorem dX3_rewire_23 : decode cX3_rewire 23 = .ok (.aload_n 0, 1) := by decide +kernel
theorem dX3_rewire_24 : decode cX3_rewire 24 = .ok (.invokevirtual 44, 3) := by decide +kernel
theorem dX3_rewire_27 : decode cX3_rewire 27 = .ok (.return_, 1) := by decide +kernel
theorem dX3_refresh_0 : decode cX3_refresh 0 = .ok (.iconst 1, 1) := by decide +kernel
theorem dX3_refresh_1 : decode cX3_refresh 1 = .ok (.aload_n 0, 1) := by decide +kernel
theorem dX3_refresh_2 : decode cX3_refresh 2 = .ok (.getfield 34, 3) := by decide +kernel
theorem dX3_refresh_5 : decode cX3_refresh 5 = .ok (.ishl, 1) := by decide +kernel
theorem dX3_refresh_6 : decode cX3_refresh 6 = .ok (.iconst 1, 1) := by decide +kernel
theorem dX3_refresh_7 : decode cX3_refresh 7 = .ok (.isub, 1) := by decide +kernel
theorem dX3_refresh_8 : decode cX3_refresh 8 = .ok (.istore_n 1, 1) := by decide +kernel
theorem dX3_refresh_9 : decode cX3_refresh 9 = .ok (.iload_n 1, 1) := by decide +kernel
theorem dX3_refresh_10 : decode cX3_refresh 10 = .ok (.iconst (-1), 1) := by decide +kernel
theorem dX3_refresh_11 : decode cX3_refresh 11 = .ok (.ixor, 1) := by decide +kernel
theorem dX3_refresh_12 : decode cX3_refresh 12 = .ok (.istore_n 2, 1) := by decide +kernel
theorem dX3_refresh_13 : decode cX3_refresh 13 = .ok (.aload_n 0, 1) := by decide +kernel
theorem dX3_refresh_14 : decode cX3_refresh 14 = .ok (.iconst 1, 1) := by decide +kernel
theorem dX3_refresh_15 : decode cX3_refresh 15 = .ok (.putfield 40, 3) := by decide +kernel
theorem dX3_refresh_18 : decode cX3_refresh 18 = .ok (.aload_n 0, 1) := by decide +kernel
theorem dX3_refresh_19 : decode cX3_refresh 19 = .ok (.iload_n 1, 1) := by decide +kernel
theorem dX3_refresh_20 : decode cX3_refresh 20 = .ok (.putfield 37, 3) := by decide +kernel
theorem dX3_refresh_23 : decode cX3_refresh 23 = .ok (.iconst 0, 1) := by decide +kernel
theorem dX3_refresh_24 : decode cX3_refresh 24 = .ok (.istore_n 3, 1) := by decide +kernel
theorem dX3_refresh_25 : decode cX3_refresh 25 = .ok (.iload_n 3, 1) := by decide +kernel
theorem dX3_refresh_26 : decode cX3_refresh 26 = .ok (.aload_n 0, 1) := by decide +kernel
theorem dX3_refresh_27 : decode cX3_refresh 27 = .ok (.getfield 34, 3) := by decide +kernel
theorem dX3_refresh_30 : decode cX3_refresh 30 = .ok (.if_icmp .ge 56, 3) := by decide +kernel
theorem dX3_refresh_33 : decode cX3_refresh 33 = .ok (.aload_n 0, 1) := by decide +kernel
theorem dX3_refresh_34 : decode cX3_refresh 34 = .ok (.iload_n 3, 1) := by decide +kernel
theorem dX3_refresh_35 : decode cX3_refresh 35 = .ok (.invokevirtual 63, 3) := by decide +kernel
theorem dX3_refresh_38 : decode cX3_refresh 38 = .ok (.iload_n 2, 1) := by decide +kernel
theorem dX3_refresh_39 : decode cX3_refresh 39 = .ok (.iand, 1) := by decide +kernel
theorem dX3_refresh_40 : decode cX3_refresh 40 = .ok (.ifCond .eq 8, 3) := by decide +kernel
theorem dX3_refresh_43 : decode cX3_refresh 43 = .ok (.aload_n 0, 1) := by decide +kernel
theorem dX3_refresh_44 : decode cX3_refresh 44 = .ok (.iconst 0, 1) := by decide +kernel
theorem dX3_refresh_45 : decode cX3_refresh 45 = .ok (.putfield 40, 3) := by decide +kernel
theorem dX3_refresh_48 : decode cX3_refresh 48 = .ok (.aload_n 0, 1) := by decide +kernel
theorem dX3_refresh_49 : decode cX3_refresh 49 = .ok (.iload_n 3, 1) := by decide +kernel
theorem dX3_refresh_50 : decode cX3_refresh 50 = .ok (.invokevirtual 63, 3) := by decide +kernel
theorem dX3_refresh_53 : decode cX3_refresh 53 = .ok (.iload_n 2, 1) := by decide +kernel
theorem dX3_refresh_54 : decode cX3_refresh 54 = .ok (.iand, 1) := by decide +kernel
theorem dX3_refresh_55 : decode cX3_refresh 55 = .ok (.ifCond .ne 11, 3) := by decide +kernel
theorem dX3_refresh_58 : decode cX3_refresh 58 = .ok (.aload_n 0, 1) := by decide +kernel
theorem dX3_refresh_59 : decode cX3_refresh 59 = .ok (.iload_n 3, 1) := by decide +kernel
theorem dX3_refresh_60 : decode cX3_refresh 60 = .ok (.invokevirtual 67, 3) := by decide +kernel
theorem dX3_refresh_63 : decode cX3_refresh 63 = .ok (.ifCond .ne 17, 3) := by decide +kernel
theorem dX3_refresh_66 : decode cX3_refresh 66 = .ok (.aload_n 0, 1) := by decide +kernel
theorem dX3_refresh_67 : decode cX3_refresh 67 = .ok (.dup, 1) := by decide +kernel
theorem dX3_refresh_68 : decode cX3_refresh 68 = .ok (.getfield 37, 3) := by decide +kernel
theorem dX3_refresh_71 : decode cX3_refresh 71 = .ok (.iconst 1, 1) := by decide +kernel
theorem dX3_refresh_72 : decode cX3_refresh 72 = .ok (.iload_n 3, 1) := by decide +kernel
theorem dX3_refresh_73 : decode cX3_refresh 73 = .ok (.ishl, 1) := by decide +kernel
theorem dX3_refresh_74 : decode cX3_refresh 74 = .ok (.iconst (-1), 1) := by decide +kernel
theorem dX3_refresh_75 : decode cX3_refresh 75 = .ok (.ixor, 1) := by decide +kernel
theorem dX3_refresh_76 : decode cX3_refresh 76 = .ok (.iand, 1) := by decide +kernel
theorem dX3_refresh_77 : decode cX3_refresh 77 = .ok (.putfield 37, 3) := by decide +kernel
theorem dX3_refresh_80 : decode cX3_refresh 80 = .ok (.iinc 3 1, 3) := by decide +kernel
theorem dX3_refresh_83 : decode cX3_refresh 83 = .ok (.goto (-58), 3) := by decide +kernel
theorem dX3_refresh_86 : decode cX3_refresh 86 = .ok (.iconst 0, 1) := by decide +kernel
theorem dX3_refresh_87 : decode cX3_refresh 87 = .ok (.istore_n 3, 1) := by decide +kernel
theorem dX3_refresh_88 : decode cX3_refresh 88 = .ok (.iload_n 3, 1) := by decide +kernel
theorem dX3_refresh_89 : decode cX3_refresh 89 = .ok (.aload_n 0, 1) := by decide +kernel
theorem dX3_refresh_90 : decode cX3_refresh 90 = .ok (.getfield 34, 3) := by decide +kernel
theorem dX3_refresh_93 : decode cX3_refresh 93 = .ok (.if_icmp .ge 58, 3) := by decide +kernel
theorem dX3_refresh_96 : decode cX3_refresh 96 = .ok (.iconst 0, 1) := by decide +kernel
theorem dX3_refresh_97 : decode cX3_refresh 97 = .ok (.istore 4, 2) := by decide +kernel
theorem dX3_refresh_99 : decode cX3_refresh 99 = .ok (.iload 4, 2) := by decide +kernel
theorem dX3_refresh_101 : decode cX3_refresh 101 = .ok (.aload_n 0, 1) := by decide +kernel
theorem dX3_refresh_102 : decode cX3_refresh 102 = .ok (.getfield 34, 3) := by decide +kernel
theorem dX3_refresh_105 : decode cX3_refresh 105 = .ok (.if_icmp .ge 40, 3) := by decide +kernel
theorem dX3_refresh_108 : decode cX3_refresh 108 = .ok (.aload_n 0, 1) := by decide +kernel
theorem dX3_refresh_109 : decode cX3_refresh 109 = .ok (.iload 4, 2) := by decide +kernel
theorem dX3_refresh_111 : decode cX3_refresh 111 = .ok (.invokevirtual 63, 3) := by decide +kernel
theorem dX3_refresh_114 : decode cX3_refresh 114 = .ok (.aload_n 0, 1) := by decide +kernel
theorem dX3_refresh_115 : decode cX3_refresh 115 = .ok (.getfield 37, 3) := by decide +kernel
theorem dX3_refresh_118 : decode cX3_refresh 118 = .ok (.iconst (-1), 1) := by decide +kernel
theorem dX3_refresh_119 : decode cX3_refresh 119 = .ok (.ixor, 1) := by decide +kernel
theorem dX3_refresh_120 : decode cX3_refresh 120 = .ok (.iand, 1) := by decide +kernel
theorem dX3_refresh_121 : decode cX3_refresh 121 = .ok (.ifCond .eq 18, 3) := by decide +kernel
theorem dX3_refresh_124 : decode cX3_refresh 124 = .ok (.aload_n 0, 1) := by decide +kernel
theorem dX3_refresh_125 : decode cX3_refresh 125 = .ok (.dup, 1) := by decide +kernel
theorem dX3_refresh_126 : decode cX3_refresh 126 = .ok (.getfield 37, 3) := by decide +kernel
theorem dX3_refresh_129 : decode cX3_refresh 129 = .ok (.iconst 1, 1) := by decide +kernel
theorem dX3_refresh_130 : decode cX3_refresh 130 = .ok (.iload 4, 2) := by decide +kernel
theorem dX3_refresh_132 : decode cX3_refresh 132 = .ok (.ishl, 1) := by decide +kernel
theorem dX3_refresh_133 : decode cX3_refresh 133 = .ok (.iconst (-1), 1) := by decide +kernel
theorem dX3_refresh_134 : decode cX3_refresh 134 = .ok (.ixor, 1) := by decide +kernel
theorem dX3_refresh_135 : decode cX3_refresh 135 = .ok (.iand, 1) := by decide +kernel
theorem dX3_refresh_136 : decode cX3_refresh 136 = .ok (.putfield 37, 3) := by decide +kernel
theorem dX3_refresh_139 : decode cX3_refresh 139 = .ok (.iinc 4 1, 3) := by decide +kernel
theorem dX3_refresh_142 : decode cX3_refresh 142 = .ok (.goto (-43), 3) := by decide +kernel
theorem dX3_refresh_145 : decode cX3_refresh 145 = .ok (.iinc 3 1, 3) := by decide +kernel
theorem dX3_refresh_148 : decode cX3_refresh 148 = .ok (.goto (-60), 3) := by decide +kernel
theorem dX3_refresh_151 : decode cX3_refresh 151 = .ok (.aload_n 0, 1) := by decide +kernel
theorem dX3_refresh_152 : decode cX3_refresh 152 = .ok (.invokevirtual 70, 3) := by decide +kernel
theorem dX3_refresh_155 : decode cX3_refresh 155 = .ok (.return_, 1) := by decide +kernel
theorem dX3_goals_0 : decode cX3_goals 0 = .ok (.iconst 0, 1) := by decide +kernel
theorem dX3_goals_1 : decode cX3_goals 1 = .ok (.istore_n 2, 1) := by decide +kernel
theorem dX3_goals_2 : decode cX3_goals 2 = .ok (.iconst 0, 1) := by decide +kernel
theorem dX3_goals_3 : decode cX3_goals 3 = .ok (.istore_n 3, 1) := by decide +kernel
theorem dX3_goals_4 : decode cX3_goals 4 = .ok (.iload_n 3, 1) := by decide +kernel
theorem dX3_goals_5 : decode cX3_goals 5 = .ok (.aload_n 0, 1) := by decide +kernel
theorem dX3_goals_6 : decode cX3_goals 6 = .ok (.getfield 31, 3) := by decide +kernel
theorem dX3_goals_9 : decode cX3_goals 9 = .ok (.if_icmp .ge 34, 3) := by decide +kernel
theorem dX3_goals_12 : decode cX3_goals 12 = .ok (.aload_n 0, 1) := by decide +kernel
theorem dX3_goals_13 : decode cX3_goals 13 = .ok (.getfield 15, 3) := by decide +kernel
theorem dX3_goals_16 : decode cX3_goals 16 = .ok (.iload_n 1, 1) := by decide +kernel
theorem dX3_goals_17 : decode cX3_goals 17 = .ok (.iconst 4, 1) := by decide +kernel
theorem dX3_goals_18 : decode cX3_goals 18 = .ok (.imul, 1) := by decide +kernel
theorem dX3_goals_19 : decode cX3_goals 19 = .ok (.iload_n 3, 1) := by decide +kernel
theorem dX3_goals_20 : decode cX3_goals 20 = .ok (.iadd, 1) := by decide +kernel
theorem dX3_goals_21 : decode cX3_goals 21 = .ok (.iaload, 1) := by decide +kernel
theorem dX3_goals_22 : decode cX3_goals 22 = .ok (.istore 4, 2) := by decide +kernel
theorem dX3_goals_24 : decode cX3_goals 24 = .ok (.iload 4, 2) := by decide +kernel
theorem dX3_goals_26 : decode cX3_goals 26 = .ok (.iconst (-1), 1) := by decide +kernel
theorem dX3_goals_27 : decode cX3_goals 27 = .ok (.if_icmp .eq 10, 3) := by decide +kernel
theorem dX3_goals_30 : decode cX3_goals 30 = .ok (.iload_n 2, 1) := by decide +kernel
theorem dX3_goals_31 : decode cX3_goals 31 = .ok (.iconst 1, 1) := by decide +kernel
theorem dX3_goals_32 : decode cX3_goals 32 = .ok (.iload 4, 2) := by decide +kernel
theorem dX3_goals_34 : decode cX3_goals 34 = .ok (.ishl, 1) := by decide +kernel
theorem dX3_goals_35 : decode cX3_goals 35 = .ok (.ior, 1) := by decide +kernel
theorem dX3_goals_36 : decode cX3_goals 36 = .ok (.istore_n 2, 1) := by decide +kernel
theorem dX3_goals_37 : decode cX3_goals 37 = .ok (.iinc 3 1, 3) := by decide +kernel
theorem dX3_goals_40 : decode cX3_goals 40 = .ok (.goto (-36), 3) := by decide +kernel
theorem dX3_goals_43 : decode cX3_goals 43 = .ok (.iload_n 2, 1) := by decide +kernel
theorem dX3_goals_44 : decode cX3_goals 44 = .ok (.ireturn, 1) := by decide +kernel
theorem dX3_writesUnlike_0 : decode cX3_writesUnlike 0 = .ok (.iconst 0, 1) := by decide +kernel
theorem dX3_writesUnlike_1 : decode cX3_writesUnlike 1 = .ok (.istore_n 2, 1) := by decide +kernel
theorem dX3_writesUnlike_2 : decode cX3_writesUnlike 2 = .ok (.iconst 0, 1) := by decide +kernel
theorem dX3_writesUnlike_3 : decode cX3_writesUnlike 3 = .ok (.istore_n 3, 1) := by decide +kernel
theorem dX3_writesUnlike_4 : decode cX3_writesUnlike 4 = .ok (.iload_n 3, 1) := by decide +kernel
theorem dX3_writesUnlike_5 : decode cX3_writesUnlike 5 = .ok (.aload_n 0, 1) := by decide +kernel
theorem dX3_writesUnlike_6 : decode cX3_writesUnlike 6 = .ok (.getfield 31, 3) := by decide +kernel
theorem dX3_writesUnlike_9 : decode cX3_writesUnlike 9 = .ok (.if_icmp .ge 24, 3) := by decide +kernel
theorem dX3_writesUnlike_12 : decode cX3_writesUnlike 12 = .ok (.iload_n 2, 1) := by decide +kernel
theorem dX3_writesUnlike_13 : decode cX3_writesUnlike 13 = .ok (.iconst 1, 1) := by decide +kernel
theorem dX3_writesUnlike_14 : decode cX3_writesUnlike 14 = .ok (.aload_n 0, 1) := by decide +kernel
theorem dX3_writesUnlike_15 : decode cX3_writesUnlike 15 = .ok (.getfield 9, 3) := by decide +kernel
theorem dX3_writesUnlike_18 : decode cX3_writesUnlike 18 = .ok (.iload_n 1, 1) := by decide +kernel
theorem dX3_writesUnlike_19 : decode cX3_writesUnlike 19 = .ok (.iconst 4, 1) := by decide +kernel
theorem dX3_writesUnlike_20 : decode cX3_writesUnlike 20 = .ok (.imul, 1) := by decide +kernel
theorem dX3_writesUnlike_21 : decode cX3_writesUnlike 21 = .ok (.iload_n 3, 1) := by decide +kernel
theorem dX3_writesUnlike_22 : decode cX3_writesUnlike 22 = .ok (.iadd, 1) := by decide +kernel
theorem dX3_writesUnlike_23 : decode cX3_writesUnlike 23 = .ok (.iaload, 1) := by decide +kernel
theorem dX3_writesUnlike_24 : decode cX3_writesUnlike 24 = .ok (.ishl, 1) := by decide +kernel
theorem dX3_writesUnlike_25 : decode cX3_writesUnlike 25 = .ok (.ior, 1) := by decide +kernel
theorem dX3_writesUnlike_26 : decode cX3_writesUnlike 26 = .ok (.istore_n 2, 1) := by decide +kernel
theorem dX3_writesUnlike_27 : decode cX3_writesUnlike 27 = .ok (.iinc 3 1, 3) := by decide +kernel
theorem dX3_writesUnlike_30 : decode cX3_writesUnlike 30 = .ok (.goto (-26), 3) := by decide +kernel
theorem dX3_writesUnlike_33 : decode cX3_writesUnlike 33 = .ok (.iload_n 2, 1) := by decide +kernel
theorem dX3_writesUnlike_34 : decode cX3_writesUnlike 34 = .ok (.iconst 1, 1) := by decide +kernel
theorem dX3_writesUnlike_35 : decode cX3_writesUnlike 35 = .ok (.aload_n 0, 1) := by decide +kernel
theorem dX3_writesUnlike_36 : decode cX3_writesUnlike 36 = .ok (.getfield 31, 3) := by decide +kernel
theorem dX3_writesUnlike_39 : decode cX3_writesUnlike 39 = .ok (.ishl, 1) := by decide +kernel
theorem dX3_writesUnlike_40 : decode cX3_writesUnlike 40 = .ok (.iconst 1, 1) := by decide +kernel
theorem dX3_writesUnlike_41 : decode cX3_writesUnlike 41 = .ok (.isub, 1) := by decide +kernel
theorem dX3_writesUnlike_42 : decode cX3_writesUnlike 42 = .ok (.if_icmp .ne 7, 3) := by decide +kernel
theorem dX3_writesUnlike_45 : decode cX3_writesUnlike 45 = .ok (.iconst 1, 1) := by decide +kernel
theorem dX3_writesUnlike_46 : decode cX3_writesUnlike 46 = .ok (.goto 4, 3) := by decide +kernel
theorem dX3_writesUnlike_49 : decode cX3_writesUnlike 49 = .ok (.iconst 0, 1) := by decide +kernel
theorem dX3_writesUnlike_50 : decode cX3_writesUnlike 50 = .ok (.ireturn, 1) := by decide +kernel
theorem dX3_listMarks_0 : decode cX3_listMarks 0 = .ok (.aload_n 0, 1) := by decide +kernel
theorem dX3_listMarks_1 : decode cX3_listMarks 1 = .ok (.iconst 0, 1) := by decide +kernel
theorem dX3_listMarks_2 : decode cX3_listMarks 2 = .ok (.putfield 27, 3) := by decide +kernel
theorem dX3_listMarks_5 : decode cX3_listMarks 5 = .ok (.iconst 0, 1) := by decide +kernel
theorem dX3_listMarks_6 : decode cX3_listMarks 6 = .ok (.istore_n 1, 1) := by decide +kernel
theorem dX3_listMarks_7 : decode cX3_listMarks 7 = .ok (.iload_n 1, 1) := by decide +kernel
theorem dX3_listMarks_8 : decode cX3_listMarks 8 = .ok (.aload_n 0, 1) := by decide +kernel
theorem dX3_listMarks_9 : decode cX3_listMarks 9 = .ok (.getfield 34, 3) := by decide +kernel
theorem dX3_listMarks_12 : decode cX3_listMarks 12 = .ok (.if_icmp .ge 79, 3) := by decide +kernel
theorem dX3_listMarks_15 : decode cX3_listMarks 15 = .ok (.aload_n 0, 1) := by decide +kernel
theorem dX3_listMarks_16 : decode cX3_listMarks 16 = .ok (.getfield 24, 3) := by decide +kernel
theorem dX3_listMarks_19 : decode cX3_listMarks 19 = .ok (.aload_n 0, 1) := by decide +kernel
theorem dX3_listMarks_20 : decode cX3_listMarks 20 = .ok (.dup, 1) := by decide +kernel
theorem dX3_listMarks_21 : decode cX3_listMarks 21 = .ok (.getfield 27, 3) := by decide +kernel
theorem dX3_listMarks_24 : decode cX3_listMarks 24 = .ok (.dup_x1, 1) := by decide +kernel
theorem dX3_listMarks_25 : decode cX3_listMarks 25 = .ok (.iconst 1, 1) := by decide +kernel
theorem dX3_listMarks_26 : decode cX3_listMarks 26 = .ok (.iadd, 1) := by decide +kernel
theorem dX3_listMarks_27 : decode cX3_listMarks 27 = .ok (.putfield 27, 3) := by decide +kernel
theorem dX3_listMarks_30 : decode cX3_listMarks 30 = .ok (.iconst 2, 1) := by decide +kernel
theorem dX3_listMarks_31 : decode cX3_listMarks 31 = .ok (.iload_n 1, 1) := by decide +kernel
theorem dX3_listMarks_32 : decode cX3_listMarks 32 = .ok (.imul, 1) := by decide +kernel
theorem dX3_listMarks_33 : decode cX3_listMarks 33 = .ok (.iastore, 1) := by decide +kernel
theorem dX3_listMarks_34 : decode cX3_listMarks 34 = .ok (.aload_n 0, 1) := by decide +kernel
theorem dX3_listMarks_35 : decode cX3_listMarks 35 = .ok (.iload_n 1, 1) := by decide +kernel
theorem dX3_listMarks_36 : decode cX3_listMarks 36 = .ok (.invokevirtual 73, 3) := by decide +kernel
theorem dX3_listMarks_39 : decode cX3_listMarks 39 = .ok (.ifCond .eq 24, 3) := by decide +kernel
theorem dX3_listMarks_42 : decode cX3_listMarks 42 = .ok (.aload_n 0, 1) := by decide +kernel
theorem dX3_listMarks_43 : decode cX3_listMarks 43 = .ok (.getfield 24, 3) := by decide +kernel
theorem dX3_listMarks_46 : decode cX3_listMarks 46 = .ok (.aload_n 0, 1) := by decide +kernel
theorem dX3_listMarks_47 : decode cX3_listMarks 47 = .ok (.dup, 1) := by decide +kernel
theorem dX3_listMarks_48 : decode cX3_listMarks 48 = .ok (.getfield 27, 3) := by decide +kernel
theorem dX3_listMarks_51 : decode cX3_listMarks 51 = .ok (.dup_x1, 1) := by decide +kernel
theorem dX3_listMarks_52 : decode cX3_listMarks 52 = .ok (.iconst 1, 1) := by decide +kernel
theorem dX3_listMarks_53 : decode cX3_listMarks 53 = .ok (.iadd, 1) := by decide +kernel
theorem dX3_listMarks_54 : decode cX3_listMarks 54 = .ok (.putfield 27, 3) := by decide +kernel
theorem dX3_listMarks_57 : decode cX3_listMarks 57 = .ok (.iconst 2, 1) := by decide +kernel
theorem dX3_listMarks_58 : decode cX3_listMarks 58 = .ok (.iload_n 1, 1) := by decide +kernel
theorem dX3_listMarks_59 : decode cX3_listMarks 59 = .ok (.imul, 1) := by decide +kernel
theorem dX3_listMarks_60 : decode cX3_listMarks 60 = .ok (.iconst 1, 1) := by decide +kernel
theorem dX3_listMarks_61 : decode cX3_listMarks 61 = .ok (.iadd, 1) := by decide +kernel
theorem dX3_listMarks_62 : decode cX3_listMarks 62 = .ok (.iastore, 1) := by decide +kernel
theorem dX3_listMarks_63 : decode cX3_listMarks 63 = .ok (.iconst 0, 1) := by decide +kernel
theorem dX3_listMarks_64 : decode cX3_listMarks 64 = .ok (.istore_n 2, 1) := by decide +kernel
theorem dX3_listMarks_65 : decode cX3_listMarks 65 = .ok (.iload_n 2, 1) := by decide +kernel
theorem dX3_listMarks_66 : decode cX3_listMarks 66 = .ok (.aload_n 0, 1) := by decide +kernel
theorem dX3_listMarks_67 : decode cX3_listMarks 67 = .ok (.getfield 31, 3) := by decide +kernel
theorem dX3_listMarks_70 : decode cX3_listMarks 70 = .ok (.if_icmp .ge 15, 3) := by decide +kernel
theorem dX3_listMarks_73 : decode cX3_listMarks 73 = .ok (.aload_n 0, 1) := by decide +kernel
theorem dX3_listMarks_74 : decode cX3_listMarks 74 = .ok (.iload_n 1, 1) := by decide +kernel
theorem dX3_listMarks_75 : decode cX3_listMarks 75 = .ok (.iload_n 2, 1) := by decide +kernel
theorem dX3_listMarks_76 : decode cX3_listMarks 76 = .ok (.invokevirtual 76, 3) := by decide +kernel
theorem dX3_listMarks_79 : decode cX3_listMarks 79 = .ok (.iinc 2 1, 3) := by decide +kernel
theorem dX3_listMarks_82 : decode cX3_listMarks 82 = .ok (.goto (-17), 3) := by decide +kernel
theorem dX3_listMarks_85 : decode cX3_listMarks 85 = .ok (.iinc 1 1, 3) := by decide +kernel
theorem dX3_listMarks_88 : decode cX3_listMarks 88 = .ok (.goto (-81), 3) := by decide +kernel
theorem dX3_listMarks_91 : decode cX3_listMarks 91 = .ok (.return_, 1) := by decide +kernel
theorem dX3_wireMarks_0 : decode cX3_wireMarks 0 = .ok (.aload_n 0, 1) := by decide +kernel
theorem dX3_wireMarks_1 : decode cX3_wireMarks 1 = .ok (.getfield 9, 3) := by decide +kernel
theorem dX3_wireMarks_4 : decode cX3_wireMarks 4 = .ok (.iload_n 1, 1) := by decide +kernel
theorem dX3_wireMarks_5 : decode cX3_wireMarks 5 = .ok (.iconst 4, 1) := by decide +kernel
theorem dX3_wireMarks_6 : decode cX3_wireMarks 6 = .ok (.imul, 1) := by decide +kernel
theorem dX3_wireMarks_7 : decode cX3_wireMarks 7 = .ok (.iload_n 2, 1) := by decide +kernel
theorem dX3_wireMarks_8 : decode cX3_wireMarks 8 = .ok (.iadd, 1) := by decide +kernel
theorem dX3_wireMarks_9 : decode cX3_wireMarks 9 = .ok (.iaload, 1) := by decide +kernel
theorem dX3_wireMarks_10 : decode cX3_wireMarks 10 = .ok (.istore_n 3, 1) := by decide +kernel
theorem dX3_wireMarks_11 : decode cX3_wireMarks 11 = .ok (.aload_n 0, 1) := by decide +kernel
theorem dX3_wireMarks_12 : decode cX3_wireMarks 12 = .ok (.getfield 15, 3) := by decide +kernel
theorem dX3_wireMarks_15 : decode cX3_wireMarks 15 = .ok (.iload_n 1, 1) := by decide +kernel
theorem dX3_wireMarks_16 : decode cX3_wireMarks 16 = .ok (.iconst 4, 1) := by decide +kernel
theorem dX3_wireMarks_17 : decode cX3_wireMarks 17 = .ok (.imul, 1) := by decide +kernel
theorem dX3_wireMarks_18 : decode cX3_wireMarks 18 = .ok (.iload_n 2, 1) := by decide +kernel
theorem dX3_wireMarks_19 : decode cX3_wireMarks 19 = .ok (.iadd, 1) := by decide +kernel
theorem dX3_wireMarks_20 : decode cX3_wireMarks 20 = .ok (.iaload, 1) := by decide +kernel
theorem dX3_wireMarks_21 : decode cX3_wireMarks 21 = .ok (.istore 4, 2) := by decide +kernel
theorem dX3_wireMarks_23 : decode cX3_wireMarks 23 = .ok (.iconst 2, 1) := by decide +kernel
theorem dX3_wireMarks_24 : decode cX3_wireMarks 24 = .ok (.iload_n 1, 1) := by decide +kernel
theorem dX3_wireMarks_25 : decode cX3_wireMarks 25 = .ok (.imul, 1) := by decide +kernel
theorem dX3_wireMarks_26 : decode cX3_wireMarks 26 = .ok (.iconst 4, 1) := by decide +kernel
theorem dX3_wireMarks_27 : decode cX3_wireMarks 27 = .ok (.imul, 1) := by decide +kernel
theorem dX3_wireMarks_28 : decode cX3_wireMarks 28 = .ok (.iload_n 2, 1) := by decide +kernel
theorem dX3_wireMarks_29 : decode cX3_wireMarks 29 = .ok (.iadd, 1) := by decide +kernel
theorem dX3_wireMarks_30 : decode cX3_wireMarks 30 = .ok (.istore 5, 2) := by decide +kernel
theorem dX3_wireMarks_32 : decode cX3_wireMarks 32 = .ok (.aload_n 0, 1) := by decide +kernel
theorem dX3_wireMarks_33 : decode cX3_wireMarks 33 = .ok (.getfield 18, 3) := by decide +kernel
theorem dX3_wireMarks_36 : decode cX3_wireMarks 36 = .ok (.iload 5, 2) := by decide +kernel
theorem dX3_wireMarks_38 : decode cX3_wireMarks 38 = .ok (.iload_n 3, 1) := by decide +kernel
theorem dX3_wireMarks_39 : decode cX3_wireMarks 39 = .ok (.iastore, 1) := by decide +kernel
theorem dX3_wireMarks_40 : decode cX3_wireMarks 40 = .ok (.aload_n 0, 1) := by decide +kernel
theorem dX3_wireMarks_41 : decode cX3_wireMarks 41 = .ok (.getfield 21, 3) := by decide +kernel
theorem dX3_wireMarks_44 : decode cX3_wireMarks 44 = .ok (.iload 5, 2) := by decide +kernel
theorem dX3_wireMarks_46 : decode cX3_wireMarks 46 = .ok (.iload 4, 2) := by decide +kernel
theorem dX3_wireMarks_48 : decode cX3_wireMarks 48 = .ok (.iconst (-1), 1) := by decide +kernel
theorem dX3_wireMarks_49 : decode cX3_wireMarks 49 = .ok (.if_icmp .ne 7, 3) := by decide +kernel
theorem dX3_wireMarks_52 : decode cX3_wireMarks 52 = .ok (.iconst (-1), 1) := by decide +kernel
theorem dX3_wireMarks_53 : decode cX3_wireMarks 53 = .ok (.goto 7, 3) := by decide +kernel
theorem dX3_wireMarks_56 : decode cX3_wireMarks 56 = .ok (.iconst 2, 1) := by decide +kernel
theorem dX3_wireMarks_57 : decode cX3_wireMarks 57 = .ok (.iload 4, 2) := by decide +kernel
theorem dX3_wireMarks_59 : decode cX3_wireMarks 59 = .ok (.imul, 1) := by decide +kernel
theorem dX3_wireMarks_60 : decode cX3_wireMarks 60 = .ok (.iastore, 1) := by decide +kernel
theorem dX3_wireMarks_61 : decode cX3_wireMarks 61 = .ok (.aload_n 0, 1) := by decide +kernel
theorem dX3_wireMarks_62 : decode cX3_wireMarks 62 = .ok (.iload_n 1, 1) := by decide +kernel
theorem dX3_wireMarks_63 : decode cX3_wireMarks 63 = .ok (.invokevirtual 73, 3) := by decide +kernel
theorem dX3_wireMarks_66 : decode cX3_wireMarks 66 = .ok (.ifCond .eq 45, 3) := by decide +kernel
theorem dX3_wireMarks_69 : decode cX3_wireMarks 69 = .ok (.iconst 2, 1) := by decide +kernel
theorem dX3_wireMarks_70 : decode cX3_wireMarks 70 = .ok (.iload_n 1, 1) := by decide +kernel
theorem dX3_wireMarks_71 : decode cX3_wireMarks 71 = .ok (.imul, 1) := by decide +kernel
theorem dX3_wireMarks_72 : decode cX3_wireMarks 72 = .ok (.iconst 1, 1) := by decide +kernel
theorem dX3_wireMarks_73 : decode cX3_wireMarks 73 = .ok (.iadd, 1) := by decide +kernel
theorem dX3_wireMarks_74 : decode cX3_wireMarks 74 = .ok (.iconst 4, 1) := by decide +kernel
theorem dX3_wireMarks_75 : decode cX3_wireMarks 75 = .ok (.imul, 1) := by decide +kernel
theorem dX3_wireMarks_76 : decode cX3_wireMarks 76 = .ok (.iload_n 3, 1) := by decide +kernel
theorem dX3_wireMarks_77 : decode cX3_wireMarks 77 = .ok (.iadd, 1) := by decide +kernel
theorem dX3_wireMarks_78 : decode cX3_wireMarks 78 = .ok (.istore 6, 2) := by decide +kernel
theorem dX3_wireMarks_80 : decode cX3_wireMarks 80 = .ok (.aload_n 0, 1) := by decide +kernel
theorem dX3_wireMarks_81 : decode cX3_wireMarks 81 = .ok (.getfield 18, 3) := by decide +kernel
theorem dX3_wireMarks_84 : decode cX3_wireMarks 84 = .ok (.iload 6, 2) := by decide +kernel
theorem dX3_wireMarks_86 : decode cX3_wireMarks 86 = .ok (.iload_n 2, 1) := by decide +kernel
theorem dX3_wireMarks_87 : decode cX3_wireMarks 87 = .ok (.iastore, 1) := by decide +kernel
theorem dX3_wireMarks_88 : decode cX3_wireMarks 88 = .ok (.aload_n 0, 1) := by decide +kernel
theorem dX3_wireMarks_89 : decode cX3_wireMarks 89 = .ok (.getfield 21, 3) := by decide +kernel
theorem dX3_wireMarks_92 : decode cX3_wireMarks 92 = .ok (.iload 6, 2) := by decide +kernel
theorem dX3_wireMarks_94 : decode cX3_wireMarks 94 = .ok (.iload 4, 2) := by decide +kernel
theorem dX3_wireMarks_96 : decode cX3_wireMarks 96 = .ok (.iconst (-1), 1) := by decide +kernel
theorem dX3_wireMarks_97 : decode cX3_wireMarks 97 = .ok (.if_icmp .ne 7, 3) := by decide +kernel
theorem dX3_wireMarks_100 : decode cX3_wireMarks 100 = .ok (.iconst (-1), 1) := by decide +kernel
theorem dX3_wireMarks_101 : decode cX3_wireMarks 101 = .ok (.goto 9, 3) := by decide +kernel
theorem dX3_wireMarks_104 : decode cX3_wireMarks 104 = .ok (.iconst 2, 1) := by decide +kernel
theorem dX3_wireMarks_105 : decode cX3_wireMarks 105 = .ok (.iload 4, 2) := by decide +kernel
theorem dX3_wireMarks_107 : decode cX3_wireMarks 107 = .ok (.imul, 1) := by decide +kernel
theorem dX3_wireMarks_108 : decode cX3_wireMarks 108 = .ok (.iconst 1, 1) := by decide +kernel
theorem dX3_wireMarks_109 : decode cX3_wireMarks 109 = .ok (.iadd, 1) := by decide +kernel
theorem dX3_wireMarks_110 : decode cX3_wireMarks 110 = .ok (.iastore, 1) := by decide +kernel
theorem dX3_wireMarks_111 : decode cX3_wireMarks 111 = .ok (.return_, 1) := by decide +kernel
theorem dX3_rowLength_0 : decode cX3_rowLength 0 = .ok (.iconst 0, 1) := by decide +kernel
theorem dX3_rowLength_1 : decode cX3_rowLength 1 = .ok (.istore_n 2, 1) := by decide +kernel
theorem dX3_rowLength_2 : decode cX3_rowLength 2 = .ok (.iload_n 2, 1) := by decide +kernel
theorem dX3_rowLength_3 : decode cX3_rowLength 3 = .ok (.bipush 10, 2) := by decide +kernel
theorem dX3_rowLength_5 : decode cX3_rowLength 5 = .ok (.if_icmp .gt 33, 3) := by decide +kernel
theorem dX3_rowLength_8 : decode cX3_rowLength 8 = .ok (.iload_n 1, 1) := by decide +kernel
theorem dX3_rowLength_9 : decode cX3_rowLength 9 = .ok (.iconst 2, 1) := by decide +kernel
theorem dX3_rowLength_10 : decode cX3_rowLength 10 = .ok (.iload_n 2, 1) := by decide +kernel
theorem dX3_rowLength_11 : decode cX3_rowLength 11 = .ok (.imul, 1) := by decide +kernel
theorem dX3_rowLength_12 : decode cX3_rowLength 12 = .ok (.ishr, 1) := by decide +kernel
theorem dX3_rowLength_13 : decode cX3_rowLength 13 = .ok (.iconst 1, 1) := by decide +kernel
theorem dX3_rowLength_14 : decode cX3_rowLength 14 = .ok (.if_icmp .ne 18, 3) := by decide +kernel
theorem dX3_rowLength_17 : decode cX3_rowLength 17 = .ok (.aload_n 0, 1) := by decide +kernel
theorem dX3_rowLength_18 : decode cX3_rowLength 18 = .ok (.iload_n 1, 1) := by decide +kernel
theorem dX3_rowLength_19 : decode cX3_rowLength 19 = .ok (.iload_n 2, 1) := by decide +kernel
theorem dX3_rowLength_20 : decode cX3_rowLength 20 = .ok (.invokevirtual 80, 3) := by decide +kernel
theorem dX3_rowLength_23 : decode cX3_rowLength 23 = .ok (.ifCond .eq 7, 3) := by decide +kernel
theorem dX3_rowLength_26 : decode cX3_rowLength 26 = .ok (.iload_n 2, 1) := by decide +kernel
theorem dX3_rowLength_27 : decode cX3_rowLength 27 = .ok (.goto 4, 3) := by decide +kernel
theorem dX3_rowLength_30 : decode cX3_rowLength 30 = .ok (.iconst (-1), 1) := by decide +kernel
theorem dX3_rowLength_31 : decode cX3_rowLength 31 = .ok (.ireturn, 1) := by decide +kernel
theorem dX3_rowLength_32 : decode cX3_rowLength 32 = .ok (.iinc 2 1, 3) := by decide +kernel
theorem dX3_rowLength_35 : decode cX3_rowLength 35 = .ok (.goto (-33), 3) := by decide +kernel
theorem dX3_rowLength_38 : decode cX3_rowLength 38 = .ok (.iconst (-1), 1) := by decide +kernel
theorem dX3_rowLength_39 : decode cX3_rowLength 39 = .ok (.ireturn, 1) := by decide +kernel
theorem dX3_hasLetters_0 : decode cX3_hasLetters 0 = .ok (.iconst 0, 1) := by decide +kernel
theorem dX3_hasLetters_1 : decode cX3_hasLetters 1 = .ok (.istore_n 3, 1) := by decide +kernel
theorem dX3_hasLetters_2 : decode cX3_hasLetters 2 = .ok (.iload_n 3, 1) := by decide +kernel
theorem dX3_hasLetters_3 : decode cX3_hasLetters 3 = .ok (.iload_n 2, 1) := by decide +kernel
theorem dX3_hasLetters_4 : decode cX3_hasLetters 4 = .ok (.if_icmp .ge 25, 3) := by decide +kernel
theorem dX3_hasLetters_7 : decode cX3_hasLetters 7 = .ok (.iload_n 1, 1) := by decide +kernel
theorem dX3_hasLetters_8 : decode cX3_hasLetters 8 = .ok (.iconst 2, 1) := by decide +kernel
theorem dX3_hasLetters_9 : decode cX3_hasLetters 9 = .ok (.iload_n 3, 1) := by decide +kernel
theorem dX3_hasLetters_10 : decode cX3_hasLetters 10 = .ok (.imul, 1) := by decide +kernel
theorem dX3_hasLetters_11 : decode cX3_hasLetters 11 = .ok (.ishr, 1) := by decide +kernel
theorem dX3_hasLetters_12 : decode cX3_hasLetters 12 = .ok (.iconst 3, 1) := by decide +kernel
theorem dX3_hasLetters_13 : decode cX3_hasLetters 13 = .ok (.iand, 1) := by decide +kernel
theorem dX3_hasLetters_14 : decode cX3_hasLetters 14 = .ok (.aload_n 0, 1) := by decide +kernel
theorem dX3_hasLetters_15 : decode cX3_hasLetters 15 = .ok (.getfield 31, 3) := by decide +kernel
theorem dX3_hasLetters_18 : decode cX3_hasLetters 18 = .ok (.if_icmp .lt 5, 3) := by decide +kernel
theorem dX3_hasLetters_21 : decode cX3_hasLetters 21 = .ok (.iconst 0, 1) := by decide +kernel
theorem dX3_hasLetters_22 : decode cX3_hasLetters 22 = .ok (.ireturn, 1) := by decide +kernel
theorem dX3_hasLetters_23 : decode cX3_hasLetters 23 = .ok (.iinc 3 1, 3) := by decide +kernel
theorem dX3_hasLetters_26 : decode cX3_hasLetters 26 = .ok (.goto (-24), 3) := by decide +kernel
theorem dX3_hasLetters_29 : decode cX3_hasLetters 29 = .ok (.iconst 1, 1) := by decide +kernel
theorem dX3_hasLetters_30 : decode cX3_hasLetters 30 = .ok (.ireturn, 1) := by decide +kernel
theorem dX3_rowIndex_0 : decode cX3_rowIndex 0 = .ok (.iconst 0, 1) := by decide +kernel
theorem dX3_rowIndex_1 : decode cX3_rowIndex 1 = .ok (.istore_n 3, 1) := by decide +kernel
theorem dX3_rowIndex_2 : decode cX3_rowIndex 2 = .ok (.iload_n 2, 1) := by decide +kernel
theorem dX3_rowIndex_3 : decode cX3_rowIndex 3 = .ok (.iconst 1, 1) := by decide +kernel
theorem dX3_rowIndex_4 : decode cX3_rowIndex 4 = .ok (.isub, 1) := by decide +kernel
theorem dX3_rowIndex_5 : decode cX3_rowIndex 5 = .ok (.istore 4, 2) := by decide +kernel
theorem dX3_rowIndex_7 : decode cX3_rowIndex 7 = .ok (.iload 4, 2) := by decide +kernel
theorem dX3_rowIndex_9 : decode cX3_rowIndex 9 = .ok (.ifCond .lt 25, 3) := by decide +kernel
theorem dX3_rowIndex_12 : decode cX3_rowIndex 12 = .ok (.iload_n 3, 1) := by decide +kernel
theorem dX3_rowIndex_13 : decode cX3_rowIndex 13 = .ok (.aload_n 0, 1) := by decide +kernel
theorem dX3_rowIndex_14 : decode cX3_rowIndex 14 = .ok (.getfield 31, 3) := by decide +kernel
theorem dX3_rowIndex_17 : decode cX3_rowIndex 17 = .ok (.imul, 1) := by decide +kernel
theorem dX3_rowIndex_18 : decode cX3_rowIndex 18 = .ok (.iload_n 1, 1) := by decide +kernel
theorem dX3_rowIndex_19 : decode cX3_rowIndex 19 = .ok (.iconst 2, 1) := by decide +kernel
theorem dX3_rowIndex_20 : decode cX3_rowIndex 20 = .ok (.iload 4, 2) := by decide +kernel
theorem dX3_rowIndex_22 : decode cX3_rowIndex 22 = .ok (.imul, 1) := by decide +kernel
theorem dX3_rowIndex_23 : decode cX3_rowIndex 23 = .ok (.ishr, 1) := by decide +kernel
theorem dX3_rowIndex_24 : decode cX3_rowIndex 24 = .ok (.iconst 3, 1) := by decide +kernel
theorem dX3_rowIndex_25 : decode cX3_rowIndex 25 = .ok (.iand, 1) := by decide +kernel
theorem dX3_rowIndex_26 : decode cX3_rowIndex 26 = .ok (.iadd, 1) := by decide +kernel
theorem dX3_rowIndex_27 : decode cX3_rowIndex 27 = .ok (.istore_n 3, 1) := by decide +kernel
theorem dX3_rowIndex_28 : decode cX3_rowIndex 28 = .ok (.iinc 4 (-1), 3) := by decide +kernel
theorem dX3_rowIndex_31 : decode cX3_rowIndex 31 = .ok (.goto (-24), 3) := by decide +kernel
theorem dX3_rowIndex_34 : decode cX3_rowIndex 34 = .ok (.iload_n 3, 1) := by decide +kernel
theorem dX3_rowIndex_35 : decode cX3_rowIndex 35 = .ok (.ireturn, 1) := by decide +kernel
theorem dX3_power_0 : decode cX3_power 0 = .ok (.iload_n 1, 1) := by decide +kernel
theorem dX3_power_1 : decode cX3_power 1 = .ok (.ifCond .ge 5, 3) := by decide +kernel
theorem dX3_power_4 : decode cX3_power 4 = .ok (.iconst 0, 1) := by decide +kernel
theorem dX3_power_5 : decode cX3_power 5 = .ok (.ireturn, 1) := by decide +kernel
theorem dX3_power_6 : decode cX3_power 6 = .ok (.iconst 1, 1) := by decide +kernel
theorem dX3_power_7 : decode cX3_power 7 = .ok (.istore_n 3, 1) := by decide +kernel
theorem dX3_power_8 : decode cX3_power 8 = .ok (.iconst 0, 1) := by decide +kernel
theorem dX3_power_9 : decode cX3_power 9 = .ok (.istore 4, 2) := by decide +kernel
theorem dX3_power_11 : decode cX3_power 11 = .ok (.iload 4, 2) := by decide +kernel
theorem dX3_power_13 : decode cX3_power 13 = .ok (.iload_n 1, 1) := by decide +kernel
theorem dX3_power_14 : decode cX3_power 14 = .ok (.if_icmp .ge 23, 3) := by decide +kernel
theorem dX3_power_17 : decode cX3_power 17 = .ok (.iload_n 3, 1) := by decide +kernel
theorem dX3_power_18 : decode cX3_power 18 = .ok (.aload_n 0, 1) := by decide +kernel
theorem dX3_power_19 : decode cX3_power 19 = .ok (.getfield 31, 3) := by decide +kernel
theorem dX3_power_22 : decode cX3_power 22 = .ok (.imul, 1) := by decide +kernel
theorem dX3_power_23 : decode cX3_power 23 = .ok (.istore_n 3, 1) := by decide +kernel
theorem dX3_power_24 : decode cX3_power 24 = .ok (.iload_n 3, 1) := by decide +kernel
theorem dX3_power_25 : decode cX3_power 25 = .ok (.iload_n 2, 1) := by decide +kernel
theorem dX3_power_26 : decode cX3_power 26 = .ok (.if_icmp .le 5, 3) := by decide +kernel
theorem dX3_power_29 : decode cX3_power 29 = .ok (.iconst 0, 1) := by decide +kernel
theorem dX3_power_30 : decode cX3_power 30 = .ok (.ireturn, 1) := by decide +kernel
theorem dX3_power_31 : decode cX3_power 31 = .ok (.iinc 4 1, 3) := by decide +kernel
theorem dX3_power_34 : decode cX3_power 34 = .ok (.goto (-23), 3) := by decide +kernel
theorem dX3_power_37 : decode cX3_power 37 = .ok (.iload_n 3, 1) := by decide +kernel
theorem dX3_power_38 : decode cX3_power 38 = .ok (.ireturn, 1) := by decide +kernel
theorem dJ7_fill_53178_0 : decode cJ7_fill_53178 0 = .ok (.iconst 0, 1) := by decide +kernel
theorem dJ7_fill_53178_1 : decode cJ7_fill_53178 1 = .ok (.istore_n 2, 1) := by decide +kernel
theorem dJ7_fill_53178_2 : decode cJ7_fill_53178 2 = .ok (.aload_n 0, 1) := by decide +kernel
theorem dJ7_fill_53178_3 : decode cJ7_fill_53178 3 = .ok (.arraylength, 1) := by decide +kernel
theorem dJ7_fill_53178_4 : decode cJ7_fill_53178 4 = .ok (.istore_n 3, 1) := by decide +kernel
theorem dJ7_fill_53178_5 : decode cJ7_fill_53178 5 = .ok (.iload_n 2, 1) := by decide +kernel
theorem dJ7_fill_53178_6 : decode cJ7_fill_53178 6 = .ok (.iload_n 3, 1) := by decide +kernel
theorem dJ7_fill_53178_7 : decode cJ7_fill_53178 7 = .ok (.if_icmp .ge 13, 3) := by decide +kernel
theorem dJ7_fill_53178_10 : decode cJ7_fill_53178 10 = .ok (.aload_n 0, 1) := by decide +kernel
theorem dJ7_fill_53178_11 : decode cJ7_fill_53178 11 = .ok (.iload_n 2, 1) := by decide +kernel
theorem dJ7_fill_53178_12 : decode cJ7_fill_53178 12 = .ok (.iload_n 1, 1) := by decide +kernel
theorem dJ7_fill_53178_13 : decode cJ7_fill_53178 13 = .ok (.iastore, 1) := by decide +kernel
theorem dJ7_fill_53178_14 : decode cJ7_fill_53178 14 = .ok (.iinc 2 1, 3) := by decide +kernel
theorem dJ7_fill_53178_17 : decode cJ7_fill_53178 17 = .ok (.goto (-12), 3) := by decide +kernel
theorem dJ7_fill_53178_20 : decode cJ7_fill_53178 20 = .ok (.return_, 1) := by decide +kernel
theorem dJ9_max_7cf53_0 : decode cJ9_max_7cf53 0 = .ok (.iload_n 0, 1) := by decide +kernel
theorem dJ9_max_7cf53_1 : decode cJ9_max_7cf53 1 = .ok (.iload_n 1, 1) := by decide +kernel
theorem dJ9_max_7cf53_2 : decode cJ9_max_7cf53 2 = .ok (.if_icmp .lt 7, 3) := by decide +kernel
theorem dJ9_max_7cf53_5 : decode cJ9_max_7cf53 5 = .ok (.iload_n 0, 1) := by decide +kernel
theorem dJ9_max_7cf53_6 : decode cJ9_max_7cf53 6 = .ok (.goto 4, 3) := by decide +kernel
theorem dJ9_max_7cf53_9 : decode cJ9_max_7cf53 9 = .ok (.iload_n 1, 1) := by decide +kernel
theorem dJ9_max_7cf53_10 : decode cJ9_max_7cf53 10 = .ok (.ireturn, 1) := by decide +kernel
theorem dJ9_max_f86c9_0 : decode cJ9_max_f86c9 0 = .ok (.lload_n 0, 1) := by decide +kernel
theorem dJ9_max_f86c9_1 : decode cJ9_max_f86c9 1 = .ok (.lload_n 2, 1) := by decide +kernel
theorem dJ9_max_f86c9_2 : decode cJ9_max_f86c9 2 = .ok (.lcmp, 1) := by decide +kernel
theorem dJ9_max_f86c9_3 : decode cJ9_max_f86c9 3 = .ok (.ifCond .lt 7, 3) := by decide +kernel
theorem dJ9_max_f86c9_6 : decode cJ9_max_f86c9 6 = .ok (.lload_n 0, 1) := by decide +kernel
theorem dJ9_max_f86c9_7 : decode cJ9_max_f86c9 7 = .ok (.goto 4, 3) := by decide +kernel
theorem dJ9_max_f86c9_10 : decode cJ9_max_f86c9 10 = .ok (.lload_n 2, 1) := by decide +kernel
theorem dJ9_max_f86c9_11 : decode cJ9_max_f86c9 11 = .ok (.lreturn, 1) := by decide +kernel
theorem dJ9_min_7cf53_0 : decode cJ9_min_7cf53 0 = .ok (.iload_n 0, 1) := by decide +kernel
theorem dJ9_min_7cf53_1 : decode cJ9_min_7cf53 1 = .ok (.iload_n 1, 1) := by decide +kernel
theorem dJ9_min_7cf53_2 : decode cJ9_min_7cf53 2 = .ok (.if_icmp .gt 7, 3) := by decide +kernel
theorem dJ9_min_7cf53_5 : decode cJ9_min_7cf53 5 = .ok (.iload_n 0, 1) := by decide +kernel
theorem dJ9_min_7cf53_6 : decode cJ9_min_7cf53 6 = .ok (.goto 4, 3) := by decide +kernel
theorem dJ9_min_7cf53_9 : decode cJ9_min_7cf53 9 = .ok (.iload_n 1, 1) := by decide +kernel
theorem dJ9_min_7cf53_10 : decode cJ9_min_7cf53 10 = .ok (.ireturn, 1) := by decide +kernel
end
section
theorem dX4_reset_0 : decode cX4_reset 0 = .ok (.aload_n 0, 1) := by decide +kernel
theorem dX4_reset_1 : decode cX4_reset 1 = .ok (.getfield 14, 3) := by decide +kernel
theorem dX4_reset_4 : decode cX4_reset 4 = .ok (.invokevirtual 62, 3) := by decide +kernel
theorem dX4_reset_7 : decode cX4_reset 7 = .ok (.aload_n 0, 1) := by decide +kernel
theorem dX4_reset_8 : decode cX4_reset 8 = .ok (.iconst 0, 1) := by decide +kernel
theorem dX4_reset_9 : decode cX4_reset 9 = .ok (.putfield 50, 3) := by decide +kernel
theorem dX4_reset_12 : decode cX4_reset 12 = .ok (.aload_n 0, 1) := by decide +kernel
theorem dX4_reset_13 : decode cX4_reset 13 = .ok (.iconst 0, 1) := by decide +kernel
theorem dX4_reset_14 : decode cX4_reset 14 = .ok (.putfield 53, 3) := by decide +kernel
theorem dX4_reset_17 : decode cX4_reset 17 = .ok (.aload_n 0, 1) := by decide +kernel
theorem dX4_reset_18 : decode cX4_reset 18 = .ok (.iconst 0, 1) := by decide +kernel
theorem dX4_reset_19 : decode cX4_reset 19 = .ok (.putfield 56, 3) := by decide +kernel
theorem dX4_reset_22 : decode cX4_reset 22 = .ok (.aload_n 0, 1) := by decide +kernel
theorem dX4_reset_23 : decode cX4_reset 23 = .ok (.iconst 0, 1) := by decide +kernel
theorem dX4_reset_24 : decode cX4_reset 24 = .ok (.putfield 59, 3) := by decide +kernel
theorem dX4_reset_27 : decode cX4_reset 27 = .ok (.return_, 1) := by decide +kernel
theorem dX4_indexOf_0 : decode cX4_indexOf 0 = .ok (.aload_n 0, 1) := by decide +kernel
theorem dX4_indexOf_1 : decode cX4_indexOf 1 = .ok (.getfield 14, 3) := by decide +kernel
theorem dX4_indexOf_4 : decode cX4_indexOf 4 = .ok (.aload_n 1, 1) := by decide +kernel
theorem dX4_indexOf_5 : decode cX4_indexOf 5 = .ok (.getfield 65, 3) := by decide +kernel
theorem dX4_indexOf_8 : decode cX4_indexOf 8 = .ok (.aload_n 1, 1) := by decide +kernel
theorem dX4_indexOf_9 : decode cX4_indexOf 9 = .ok (.getfield 69, 3) := by decide +kernel
theorem dX4_indexOf_12 : decode cX4_indexOf 12 = .ok (.invokevirtual 72, 3) := by decide +kernel
theorem dX4_indexOf_15 : decode cX4_indexOf 15 = .ok (.ireturn, 1) := by decide +kernel
theorem dX4_load_0 : decode cX4_load 0 = .ok (.aload_n 2, 1) := by decide +kernel
theorem dX4_load_1 : decode cX4_load 1 = .ok (.aload_n 0, 1) := by decide +kernel
theorem dX4_load_2 : decode cX4_load 2 = .ok (.getfield 14, 3) := by decide +kernel
theorem dX4_load_5 : decode cX4_load 5 = .ok (.getfield 76, 3) := by decide +kernel
theorem dX4_load_8 : decode cX4_load 8 = .ok (.iload_n 1, 1) := by decide +kernel
theorem dX4_load_9 : decode cX4_load 9 = .ok (.laload, 1) := by decide +kernel
theorem dX4_load_10 : decode cX4_load 10 = .ok (.putfield 65, 3) := by decide +kernel
theorem dX4_load_13 : decode cX4_load 13 = .ok (.aload_n 2, 1) := by decide +kernel
theorem dX4_load_14 : decode cX4_load 14 = .ok (.aload_n 0, 1) := by decide +kernel
theorem dX4_load_15 : decode cX4_load 15 = .ok (.getfield 14, 3) := by decide +kernel
theorem dX4_load_18 : decode cX4_load 18 = .ok (.getfield 80, 3) := by decide +kernel
theorem dX4_load_21 : decode cX4_load 21 = .ok (.iload_n 1, 1) := by decide +kernel
theorem dX4_load_22 : decode cX4_load 22 = .ok (.iaload, 1) := by decide +kernel
theorem dX4_load_23 : decode cX4_load 23 = .ok (.putfield 69, 3) := by decide +kernel
theorem dX4_load_26 : decode cX4_load 26 = .ok (.return_, 1) := by decide +kernel
theorem dX4_enter_0 : decode cX4_enter 0 = .ok (.aload_n 0, 1) := by decide +kernel
theorem dX4_enter_1 : decode cX4_enter 1 = .ok (.getfield 14, 3) := by decide +kernel
theorem dX4_enter_4 : decode cX4_enter 4 = .ok (.aload_n 1, 1) := by decide +kernel
theorem dX4_enter_5 : decode cX4_enter 5 = .ok (.getfield 65, 3) := by decide +kernel
theorem dX4_enter_8 : decode cX4_enter 8 = .ok (.aload_n 1, 1) := by decide +kernel
theorem dX4_enter_9 : decode cX4_enter 9 = .ok (.getfield 69, 3) := by decide +kernel
theorem dX4_enter_12 : decode cX4_enter 12 = .ok (.invokevirtual 83, 3) := by decide +kernel
theorem dX4_enter_15 : decode cX4_enter 15 = .ok (.ireturn, 1) := by decide +kernel
theorem dX4_take_0 : decode cX4_take 0 = .ok (.aload_n 0, 1) := by decide +kernel
theorem dX4_take_1 : decode cX4_take 1 = .ok (.getfield 14, 3) := by decide +kernel
theorem dX4_take_4 : decode cX4_take 4 = .ok (.aload_n 2, 1) := by decide +kernel
theorem dX4_take_5 : decode cX4_take 5 = .ok (.getfield 65, 3) := by decide +kernel
theorem dX4_take_8 : decode cX4_take 8 = .ok (.aload_n 2, 1) := by decide +kernel
theorem dX4_take_9 : decode cX4_take 9 = .ok (.getfield 69, 3) := by decide +kernel
theorem dX4_take_12 : decode cX4_take 12 = .ok (.invokevirtual 83, 3) := by decide +kernel
theorem dX4_take_15 : decode cX4_take 15 = .ok (.istore_n 3, 1) := by decide +kernel
theorem dX4_take_16 : decode cX4_take 16 = .ok (.iload_n 3, 1) := by decide +kernel
theorem dX4_take_17 : decode cX4_take 17 = .ok (.ifCond .lt 15, 3) := by decide +kernel
theorem dX4_take_20 : decode cX4_take 20 = .ok (.aload_n 0, 1) := by decide +kernel
theorem dX4_take_21 : decode cX4_take 21 = .ok (.aload_n 1, 1) := by decide +kernel
theorem dX4_take_22 : decode cX4_take 22 = .ok (.invokevirtual 86, 3) := by decide +kernel
theorem dX4_take_25 : decode cX4_take 25 = .ok (.ifCond .eq 7, 3) := by decide +kernel
theorem dX4_take_28 : decode cX4_take 28 = .ok (.iload_n 3, 1) := by decide +kernel
theorem dX4_take_29 : decode cX4_take 29 = .ok (.goto 4, 3) := by decide +kernel
theorem dX4_take_32 : decode cX4_take 32 = .ok (.iconst (-1), 1) := by decide +kernel
theorem dX4_take_33 : decode cX4_take 33 = .ok (.ireturn, 1) := by decide +kernel
theorem dX4_followParts_0 : decode cX4_followParts 0 = .ok (.aload_n 0, 1) := by decide +kernel
theorem dX4_followParts_1 : decode cX4_followParts 1 = .ok (.aload_n 1, 1) := by decide +kernel
theorem dX4_followParts_2 : decode cX4_followParts 2 = .ok (.getfield 90, 3) := by decide +kernel
theorem dX4_followParts_5 : decode cX4_followParts 5 = .ok (.putfield 46, 3) := by decide +kernel
theorem dX4_followParts_8 : decode cX4_followParts 8 = .ok (.aload_n 0, 1) := by decide +kernel
theorem dX4_followParts_9 : decode cX4_followParts 9 = .ok (.getfield 50, 3) := by decide +kernel
theorem dX4_followParts_12 : decode cX4_followParts 12 = .ok (.istore_n 2, 1) := by decide +kernel
theorem dX4_followParts_13 : decode cX4_followParts 13 = .ok (.iload_n 2, 1) := by decide +kernel
theorem dX4_followParts_14 : decode cX4_followParts 14 = .ok (.aload_n 0, 1) := by decide +kernel
theorem dX4_followParts_15 : decode cX4_followParts 15 = .ok (.getfield 14, 3) := by decide +kernel
theorem dX4_followParts_18 : decode cX4_followParts 18 = .ok (.getfield 93, 3) := by decide +kernel
theorem dX4_followParts_21 : decode cX4_followParts 21 = .ok (.if_icmp .ge 120, 3) := by decide +kernel
theorem dX4_followParts_24 : decode cX4_followParts 24 = .ok (.iload_n 2, 1) := by decide +kernel
theorem dX4_followParts_25 : decode cX4_followParts 25 = .ok (.sipush 200, 3) := by decide +kernel
theorem dX4_followParts_28 : decode cX4_followParts 28 = .ok (.if_icmp .ge 113, 3) := by decide +kernel
theorem dX4_followParts_31 : decode cX4_followParts 31 = .ok (.iconst 0, 1) := by decide +kernel
theorem dX4_followParts_32 : decode cX4_followParts 32 = .ok (.istore_n 3, 1) := by decide +kernel
theorem dX4_followParts_33 : decode cX4_followParts 33 = .ok (.iconst 0, 1) := by decide +kernel
theorem dX4_followParts_34 : decode cX4_followParts 34 = .ok (.istore 4, 2) := by decide +kernel
theorem dX4_followParts_36 : decode cX4_followParts 36 = .ok (.iload 4, 2) := by decide +kernel
theorem dX4_followParts_38 : decode cX4_followParts 38 = .ok (.aload_n 0, 1) := by decide +kernel
theorem dX4_followParts_39 : decode cX4_followParts 39 = .ok (.getfield 46, 3) := by decide +kernel
theorem dX4_followParts_42 : decode cX4_followParts 42 = .ok (.if_icmp .ge 79, 3) := by decide +kernel
theorem dX4_followParts_45 : decode cX4_followParts 45 = .ok (.aload_n 0, 1) := by decide +kernel
theorem dX4_followParts_46 : decode cX4_followParts 46 = .ok (.iload_n 2, 1) := by decide +kernel
theorem dX4_followParts_47 : decode cX4_followParts 47 = .ok (.aload_n 0, 1) := by decide +kernel
theorem dX4_followParts_48 : decode cX4_followParts 48 = .ok (.getfield 42, 3) := by decide +kernel
theorem dX4_followParts_51 : decode cX4_followParts 51 = .ok (.invokevirtual 96, 3) := by decide +kernel
theorem dX4_followParts_54 : decode cX4_followParts 54 = .ok (.iload_n 3, 1) := by decide +kernel
theorem dX4_followParts_55 : decode cX4_followParts 55 = .ok (.aload_n 0, 1) := by decide +kernel
theorem dX4_followParts_56 : decode cX4_followParts 56 = .ok (.getfield 42, 3) := by decide +kernel
theorem dX4_followParts_59 : decode cX4_followParts 59 = .ok (.aload_n 1, 1) := by decide +kernel
theorem dX4_followParts_60 : decode cX4_followParts 60 = .ok (.iload 4, 2) := by decide +kernel
theorem dX4_followParts_62 : decode cX4_followParts 62 = .ok (.invokevirtual 100, 3) := by decide +kernel
theorem dX4_followParts_65 : decode cX4_followParts 65 = .ok (.iconst 2, 1) := by decide +kernel
theorem dX4_followParts_66 : decode cX4_followParts 66 = .ok (.iload 4, 2) := by decide +kernel
theorem dX4_followParts_68 : decode cX4_followParts 68 = .ok (.imul, 1) := by decide +kernel
theorem dX4_followParts_69 : decode cX4_followParts 69 = .ok (.ishl, 1) := by decide +kernel
theorem dX4_followParts_70 : decode cX4_followParts 70 = .ok (.ior, 1) := by decide +kernel
theorem dX4_followParts_71 : decode cX4_followParts 71 = .ok (.istore_n 3, 1) := by decide +kernel
theorem dX4_followParts_72 : decode cX4_followParts 72 = .ok (.aload_n 0, 1) := by decide +kernel
theorem dX4_followParts_73 : decode cX4_followParts 73 = .ok (.getfield 14, 3) := by decide +kernel
theorem dX4_followParts_76 : decode cX4_followParts 76 = .ok (.aload_n 0, 1) := by decide +kernel
theorem dX4_followParts_77 : decode cX4_followParts 77 = .ok (.getfield 42, 3) := by decide +kernel
theorem dX4_followParts_80 : decode cX4_followParts 80 = .ok (.getfield 65, 3) := by decide +kernel
theorem dX4_followParts_83 : decode cX4_followParts 83 = .ok (.aload_n 0, 1) := by decide +kernel
theorem dX4_followParts_84 : decode cX4_followParts 84 = .ok (.getfield 42, 3) := by decide +kernel
theorem dX4_followParts_87 : decode cX4_followParts 87 = .ok (.getfield 69, 3) := by decide +kernel
theorem dX4_followParts_90 : decode cX4_followParts 90 = .ok (.invokevirtual 83, 3) := by decide +kernel
theorem dX4_followParts_93 : decode cX4_followParts 93 = .ok (.istore 5, 2) := by decide +kernel
theorem dX4_followParts_95 : decode cX4_followParts 95 = .ok (.iload 5, 2) := by decide +kernel
theorem dX4_followParts_97 : decode cX4_followParts 97 = .ok (.ifCond .ge 5, 3) := by decide +kernel
theorem dX4_followParts_100 : decode cX4_followParts 100 = .ok (.iconst 0, 1) := by decide +kernel
theorem dX4_followParts_101 : decode cX4_followParts 101 = .ok (.ireturn, 1) := by decide +kernel
theorem dX4_followParts_102 : decode cX4_followParts 102 = .ok (.aload_n 0, 1) := by decide +kernel
theorem dX4_followParts_103 : decode cX4_followParts 103 = .ok (.getfield 23, 3) := by decide +kernel
theorem dX4_followParts_106 : decode cX4_followParts 106 = .ok (.iload_n 2, 1) := by decide +kernel
theorem dX4_followParts_107 : decode cX4_followParts 107 = .ok (.iconst 4, 1) := by decide +kernel
theorem dX4_followParts_108 : decode cX4_followParts 108 = .ok (.imul, 1) := by decide +kernel
theorem dX4_followParts_109 : decode cX4_followParts 109 = .ok (.iload 4, 2) := by decide +kernel
theorem dX4_followParts_111 : decode cX4_followParts 111 = .ok (.iadd, 1) := by decide +kernel
theorem dX4_followParts_112 : decode cX4_followParts 112 = .ok (.iload 5, 2) := by decide +kernel
theorem dX4_followParts_114 : decode cX4_followParts 114 = .ok (.iastore, 1) := by decide +kernel
theorem dX4_followParts_115 : decode cX4_followParts 115 = .ok (.iinc 4 1, 3) := by decide +kernel
theorem dX4_followParts_118 : decode cX4_followParts 118 = .ok (.goto (-82), 3) := by decide +kernel
theorem dX4_followParts_121 : decode cX4_followParts 121 = .ok (.aload_n 0, 1) := by decide +kernel
theorem dX4_followParts_122 : decode cX4_followParts 122 = .ok (.getfield 27, 3) := by decide +kernel
theorem dX4_followParts_125 : decode cX4_followParts 125 = .ok (.iload_n 2, 1) := by decide +kernel
theorem dX4_followParts_126 : decode cX4_followParts 126 = .ok (.iload_n 3, 1) := by decide +kernel
theorem dX4_followParts_127 : decode cX4_followParts 127 = .ok (.iastore, 1) := by decide +kernel
theorem dX4_followParts_128 : decode cX4_followParts 128 = .ok (.aload_n 0, 1) := by decide +kernel
theorem dX4_followParts_129 : decode cX4_followParts 129 = .ok (.iload_n 2, 1) := by decide +kernel
theorem dX4_followParts_130 : decode cX4_followParts 130 = .ok (.iconst 1, 1) := by decide +kernel
theorem dX4_followParts_131 : decode cX4_followParts 131 = .ok (.iadd, 1) := by decide +kernel
theorem dX4_followParts_132 : decode cX4_followParts 132 = .ok (.putfield 50, 3) := by decide +kernel
theorem dX4_followParts_135 : decode cX4_followParts 135 = .ok (.iinc 2 1, 3) := by decide +kernel
theorem dX4_followParts_138 : decode cX4_followParts 138 = .ok (.goto (-125), 3) := by decide +kernel
theorem dX4_followParts_141 : decode cX4_followParts 141 = .ok (.iconst 1, 1) := by decide +kernel
theorem dX4_followParts_142 : decode cX4_followParts 142 = .ok (.ireturn, 1) := by decide +kernel
theorem dX4_classify_0 : decode cX4_classify 0 = .ok (.aload_n 0, 1) := by decide +kernel
theorem dX4_classify_1 : decode cX4_classify 1 = .ok (.getfield 53, 3) := by decide +kernel
theorem dX4_classify_4 : decode cX4_classify 4 = .ok (.aload_n 0, 1) := by decide +kernel
theorem dX4_classify_5 : decode cX4_classify 5 = .ok (.getfield 14, 3) := by decide +kernel
theorem dX4_classify_8 : decode cX4_classify 8 = .ok (.getfield 93, 3) := by decide +kernel
theorem dX4_classify_11 : decode cX4_classify 11 = .ok (.if_icmp .ne 4, 3) := by decide +kernel
theorem dX4_classify_14 : decode cX4_classify 14 = .ok (.return_, 1) := by decide +kernel
theorem dX4_classify_15 : decode cX4_classify 15 = .ok (.aload_n 0, 1) := by decide +kernel
theorem dX4_classify_16 : decode cX4_classify 16 = .ok (.aload_n 0, 1) := by decide +kernel
theorem dX4_classify_17 : decode cX4_classify 17 = .ok (.getfield 14, 3) := by decide +kernel
theorem dX4_classify_20 : decode cX4_classify 20 = .ok (.getfield 93, 3) := by decide +kernel
theorem dX4_classify_23 : decode cX4_classify 23 = .ok (.putfield 53, 3) := by decide +kernel
theorem dX4_classify_26 : decode cX4_classify 26 = .ok (.aload_n 0, 1) := by decide +kernel
theorem dX4_classify_27 : decode cX4_classify 27 = .ok (.getfield 20, 3) := by decide +kernel
theorem dX4_classify_30 : decode cX4_classify 30 = .ok (.invokevirtual 62, 3) := by decide +kernel
theorem dX4_classify_33 : decode cX4_classify 33 = .ok (.iconst 0, 1) := by decide +kernel
theorem dX4_classify_34 : decode cX4_classify 34 = .ok (.istore_n 1, 1) := by decide +kernel
theorem dX4_classify_35 : decode cX4_classify 35 = .ok (.iload_n 1, 1) := by decide +kernel
theorem dX4_classify_36 : decode cX4_classify 36 = .ok (.aload_n 0, 1) := by decide +kernel
theorem dX4_classify_37 : decode cX4_classify 37 = .ok (.getfield 53, 3) := by decide +kernel
theorem dX4_classify_40 : decode cX4_classify 40 = .ok (.if_icmp .ge 30, 3) := by decide +kernel
theorem dX4_classify_43 : decode cX4_classify 43 = .ok (.aload_n 0, 1) := by decide +kernel
theorem dX4_classify_44 : decode cX4_classify 44 = .ok (.getfield 30, 3) := by decide +kernel
theorem dX4_classify_47 : decode cX4_classify 47 = .ok (.iload_n 1, 1) := by decide +kernel
theorem dX4_classify_48 : decode cX4_classify 48 = .ok (.aload_n 0, 1) := by decide +kernel
theorem dX4_classify_49 : decode cX4_classify 49 = .ok (.getfield 20, 3) := by decide +kernel
theorem dX4_classify_52 : decode cX4_classify 52 = .ok (.aload_n 0, 1) := by decide +kernel
theorem dX4_classify_53 : decode cX4_classify 53 = .ok (.getfield 27, 3) := by decide +kernel
theorem dX4_classify_56 : decode cX4_classify 56 = .ok (.iload_n 1, 1) := by decide +kernel
theorem dX4_classify_57 : decode cX4_classify 57 = .ok (.iaload, 1) := by decide +kernel
theorem dX4_classify_58 : decode cX4_classify 58 = .ok (.i2l, 1) := by decide +kernel
theorem dX4_classify_59 : decode cX4_classify 59 = .ok (.iconst 0, 1) := by decide +kernel
theorem dX4_classify_60 : decode cX4_classify 60 = .ok (.invokevirtual 83, 3) := by decide +kernel
theorem dX4_classify_63 : decode cX4_classify 63 = .ok (.iastore, 1) := by decide +kernel
theorem dX4_classify_64 : decode cX4_classify 64 = .ok (.iinc 1 1, 3) := by decide +kernel
theorem dX4_classify_67 : decode cX4_classify 67 = .ok (.goto (-32), 3) := by decide +kernel
theorem dX4_classify_70 : decode cX4_classify 70 = .ok (.aload_n 0, 1) := by decide +kernel
theorem dX4_classify_71 : decode cX4_classify 71 = .ok (.aload_n 0, 1) := by decide +kernel
theorem dX4_classify_72 : decode cX4_classify 72 = .ok (.getfield 20, 3) := by decide +kernel
theorem dX4_classify_75 : decode cX4_classify 75 = .ok (.getfield 93, 3) := by decide +kernel
theorem dX4_classify_78 : decode cX4_classify 78 = .ok (.putfield 56, 3) := by decide +kernel
theorem dX4_classify_81 : decode cX4_classify 81 = .ok (.aload_n 0, 1) := by decide +kernel
theorem dX4_classify_82 : decode cX4_classify 82 = .ok (.iconst 0, 1) := by decide +kernel
theorem dX4_classify_83 : decode cX4_classify 83 = .ok (.putfield 59, 3) := by decide +kernel
theorem dX4_classify_86 : decode cX4_classify 86 = .ok (.aload_n 0, 1) := by decide +kernel
theorem dX4_classify_87 : decode cX4_classify 87 = .ok (.invokevirtual 104, 3) := by decide +kernel
theorem dX4_classify_90 : decode cX4_classify 90 = .ok (.iconst 1, 1) := by decide +kernel
theorem dX4_classify_91 : decode cX4_classify 91 = .ok (.istore_n 1, 1) := by decide +kernel
theorem dX4_classify_92 : decode cX4_classify 92 = .ok (.iload_n 1, 1) := by decide +kernel
theorem dX4_classify_93 : decode cX4_classify 93 = .ok (.sipush 200, 3) := by decide +kernel
theorem dX4_classify_96 : decode cX4_classify 96 = .ok (.if_icmp .gt 33, 3) := by decide +kernel
theorem dX4_classify_99 : decode cX4_classify 99 = .ok (.aload_n 0, 1) := by decide +kernel
theorem dX4_classify_100 : decode cX4_classify 100 = .ok (.getfield 56, 3) := by decide +kernel
theorem dX4_classify_103 : decode cX4_classify 103 = .ok (.istore_n 2, 1) := by decide +kernel
theorem dX4_classify_104 : decode cX4_classify 104 = .ok (.aload_n 0, 1) := by decide +kernel
theorem dX4_classify_105 : decode cX4_classify 105 = .ok (.invokevirtual 107, 3) := by decide +kernel
theorem dX4_classify_108 : decode cX4_classify 108 = .ok (.aload_n 0, 1) := by decide +kernel
theorem dX4_classify_109 : decode cX4_classify 109 = .ok (.getfield 56, 3) := by decide +kernel
theorem dX4_classify_112 : decode cX4_classify 112 = .ok (.iload_n 2, 1) := by decide +kernel
theorem dX4_classify_113 : decode cX4_classify 113 = .ok (.if_icmp .ne 6, 3) := by decide +kernel
theorem dX4_classify_116 : decode cX4_classify 116 = .ok (.goto 13, 3) := by decide +kernel
theorem dX4_classify_119 : decode cX4_classify 119 = .ok (.aload_n 0, 1) := by decide +kernel
theorem dX4_classify_120 : decode cX4_classify 120 = .ok (.invokevirtual 104, 3) := by decide +kernel
theorem dX4_classify_123 : decode cX4_classify 123 = .ok (.iinc 1 1, 3) := by decide +kernel
theorem dX4_classify_126 : decode cX4_classify 126 = .ok (.goto (-34), 3) := by decide +kernel
theorem dX4_classify_129 : decode cX4_classify 129 = .ok (.return_, 1) := by decide +kernel
theorem dX4_refine_0 : decode cX4_refine 0 = .ok (.aload_n 0, 1) := by decide +kernel
theorem dX4_refine_1 : decode cX4_refine 1 = .ok (.getfield 20, 3) := by decide +kernel
theorem dX4_refine_4 : decode cX4_refine 4 = .ok (.invokevirtual 62, 3) := by decide +kernel
theorem dX4_refine_7 : decode cX4_refine 7 = .ok (.iconst 0, 1) := by decide +kernel
theorem dX4_refine_8 : decode cX4_refine 8 = .ok (.istore_n 1, 1) := by decide +kernel
theorem dX4_refine_9 : decode cX4_refine 9 = .ok (.iload_n 1, 1) := by decide +kernel
theorem dX4_refine_10 : decode cX4_refine 10 = .ok (.aload_n 0, 1) := by decide +kernel
theorem dX4_refine_11 : decode cX4_refine 11 = .ok (.getfield 53, 3) := by decide +kernel
theorem dX4_refine_14 : decode cX4_refine 14 = .ok (.if_icmp .ge 73, 3) := by decide +kernel
theorem dX4_refine_17 : decode cX4_refine 17 = .ok (.aload_n 0, 1) := by decide +kernel
theorem dX4_refine_18 : decode cX4_refine 18 = .ok (.getfield 30, 3) := by decide +kernel
theorem dX4_refine_21 : decode cX4_refine 21 = .ok (.iload_n 1, 1) := by decide +kernel
theorem dX4_refine_22 : decode cX4_refine 22 = .ok (.iaload, 1) := by decide +kernel
theorem dX4_refine_23 : decode cX4_refine 23 = .ok (.i2l, 1) := by decide +kernel
theorem dX4_refine_24 : decode cX4_refine 24 = .ok (.lstore_n 2, 1) := by decide +kernel
theorem dX4_refine_25 : decode cX4_refine 25 = .ok (.iconst 0, 1) := by decide +kernel
theorem dX4_refine_26 : decode cX4_refine 26 = .ok (.istore 4, 2) := by decide +kernel
theorem dX4_refine_28 : decode cX4_refine 28 = .ok (.iload 4, 2) := by decide +kernel
theorem dX4_refine_30 : decode cX4_refine 30 = .ok (.aload_n 0, 1) := by decide +kernel
theorem dX4_refine_31 : decode cX4_refine 31 = .ok (.getfield 46, 3) := by decide +kernel
theorem dX4_refine_34 : decode cX4_refine 34 = .ok (.if_icmp .ge 32, 3) := by decide +kernel
theorem dX4_refine_37 : decode cX4_refine 37 = .ok (.lload_n 2, 1) := by decide +kernel
theorem dX4_refine_38 : decode cX4_refine 38 = .ok (.bipush 8, 2) := by decide +kernel
theorem dX4_refine_40 : decode cX4_refine 40 = .ok (.lshl, 1) := by decide +kernel
theorem dX4_refine_41 : decode cX4_refine 41 = .ok (.aload_n 0, 1) := by decide +kernel
theorem dX4_refine_42 : decode cX4_refine 42 = .ok (.getfield 30, 3) := by decide +kernel
theorem dX4_refine_45 : decode cX4_refine 45 = .ok (.aload_n 0, 1) := by decide +kernel
theorem dX4_refine_46 : decode cX4_refine 46 = .ok (.getfield 23, 3) := by decide +kernel
theorem dX4_refine_49 : decode cX4_refine 49 = .ok (.iload_n 1, 1) := by decide +kernel
theorem dX4_refine_50 : decode cX4_refine 50 = .ok (.iconst 4, 1) := by decide +kernel
theorem dX4_refine_51 : decode cX4_refine 51 = .ok (.imul, 1) := by decide +kernel
theorem dX4_refine_52 : decode cX4_refine 52 = .ok (.iload 4, 2) := by decide +kernel
theorem dX4_refine_54 : decode cX4_refine 54 = .ok (.iadd, 1) := by decide +kernel
theorem dX4_refine_55 : decode cX4_refine 55 = .ok (.iaload, 1) := by decide +kernel
theorem dX4_refine_56 : decode cX4_refine 56 = .ok (.iaload, 1) := by decide +kernel
theorem dX4_refine_57 : decode cX4_refine 57 = .ok (.i2l, 1) := by decide +kernel
theorem dX4_refine_58 : decode cX4_refine 58 = .ok (.lor, 1) := by decide +kernel
theorem dX4_refine_59 : decode cX4_refine 59 = .ok (.lstore_n 2, 1) := by decide +kernel
theorem dX4_refine_60 : decode cX4_refine 60 = .ok (.iinc 4 1, 3) := by decide +kernel
theorem dX4_refine_63 : decode cX4_refine 63 = .ok (.goto (-35), 3) := by decide +kernel
theorem dX4_refine_66 : decode cX4_refine 66 = .ok (.aload_n 0, 1) := by decide +kernel
theorem dX4_refine_67 : decode cX4_refine 67 = .ok (.getfield 33, 3) := by decide +kernel
theorem dX4_refine_70 : decode cX4_refine 70 = .ok (.iload_n 1, 1) := by decide +kernel
theorem dX4_refine_71 : decode cX4_refine 71 = .ok (.aload_n 0, 1) := by decide +kernel
theorem dX4_refine_72 : decode cX4_refine 72 = .ok (.getfield 20, 3) := by decide +kernel
theorem dX4_refine_75 : decode cX4_refine 75 = .ok (.lload_n 2, 1) := by decide +kernel
theorem dX4_refine_76 : decode cX4_refine 76 = .ok (.iconst 0, 1) := by decide +kernel
theorem dX4_refine_77 : decode cX4_refine 77 = .ok (.invokevirtual 83, 3) := by decide +kernel
theorem dX4_refine_80 : decode cX4_refine 80 = .ok (.iastore, 1) := by decide +kernel
theorem dX4_refine_81 : decode cX4_refine 81 = .ok (.iinc 1 1, 3) := by decide +kernel
theorem dX4_refine_84 : decode cX4_refine 84 = .ok (.goto (-75), 3) := by decide +kernel
theorem dX4_refine_87 : decode cX4_refine 87 = .ok (.aload_n 0, 1) := by decide +kernel
theorem dX4_refine_88 : decode cX4_refine 88 = .ok (.aload_n 0, 1) := by decide +kernel
theorem dX4_refine_89 : decode cX4_refine 89 = .ok (.getfield 20, 3) := by decide +kernel
theorem dX4_refine_92 : decode cX4_refine 92 = .ok (.getfield 93, 3) := by decide +kernel
theorem dX4_refine_95 : decode cX4_refine 95 = .ok (.putfield 56, 3) := by decide +kernel
theorem dX4_refine_98 : decode cX4_refine 98 = .ok (.aload_n 0, 1) := by decide +kernel
theorem dX4_refine_99 : decode cX4_refine 99 = .ok (.getfield 33, 3) := by decide +kernel
theorem dX4_refine_102 : decode cX4_refine 102 = .ok (.iconst 0, 1) := by decide +kernel
theorem dX4_refine_103 : decode cX4_refine 103 = .ok (.aload_n 0, 1) := by decide +kernel
theorem dX4_refine_104 : decode cX4_refine 104 = .ok (.getfield 30, 3) := by decide +kernel
theorem dX4_refine_107 : decode cX4_refine 107 = .ok (.iconst 0, 1) := by decide +kernel
theorem dX4_refine_108 : decode cX4_refine 108 = .ok (.aload_n 0, 1) := by decide +kernel
theorem dX4_refine_109 : decode cX4_refine 109 = .ok (.getfield 53, 3) := by decide +kernel
theorem dX4_refine_112 : decode cX4_refine 112 = .ok (.invokestatic 110, 3) := by decide +kernel
theorem dX4_refine_115 : decode cX4_refine 115 = .ok (.return_, 1) := by decide +kernel
theorem dX4_keepRound_0 : decode cX4_keepRound 0 = .ok (.aload_n 0, 1) := by decide +kernel
theorem dX4_keepRound_1 : decode cX4_keepRound 1 = .ok (.getfield 59, 3) := by decide +kernel
theorem dX4_keepRound_4 : decode cX4_keepRound 4 = .ok (.bipush 14, 2) := by decide +kernel
theorem dX4_keepRound_6 : decode cX4_keepRound 6 = .ok (.if_icmp .ge 37, 3) := by decide +kernel
theorem dX4_keepRound_9 : decode cX4_keepRound 9 = .ok (.aload_n 0, 1) := by decide +kernel
theorem dX4_keepRound_10 : decode cX4_keepRound 10 = .ok (.getfield 30, 3) := by decide +kernel
theorem dX4_keepRound_13 : decode cX4_keepRound 13 = .ok (.iconst 0, 1) := by decide +kernel
theorem dX4_keepRound_14 : decode cX4_keepRound 14 = .ok (.aload_n 0, 1) := by decide +kernel
theorem dX4_keepRound_15 : decode cX4_keepRound 15 = .ok (.getfield 36, 3) := by decide +kernel
theorem dX4_keepRound_18 : decode cX4_keepRound 18 = .ok (.aload_n 0, 1) := by decide +kernel
theorem dX4_keepRound_19 : decode cX4_keepRound 19 = .ok (.getfield 59, 3) := by decide +kernel
theorem dX4_keepRound_22 : decode cX4_keepRound 22 = .ok (.sipush 200, 3) := by decide +kernel
theorem dX4_keepRound_25 : decode cX4_keepRound 25 = .ok (.imul, 1) := by decide +kernel
theorem dX4_keepRound_26 : decode cX4_keepRound 26 = .ok (.aload_n 0, 1) := by decide +kernel
theorem dX4_keepRound_27 : decode cX4_keepRound 27 = .ok (.getfield 53, 3) := by decide +kernel
theorem dX4_keepRound_30 : decode cX4_keepRound 30 = .ok (.invokestatic 110, 3) := by decide +kernel
theorem dX4_keepRound_33 : decode cX4_keepRound 33 = .ok (.aload_n 0, 1) := by decide +kernel
theorem dX4_keepRound_34 : decode cX4_keepRound 34 = .ok (.dup, 1) := by decide +kernel
theorem dX4_keepRound_35 : decode cX4_keepRound 35 = .ok (.getfield 59, 3) := by decide +kernel
theorem dX4_keepRound_38 : decode cX4_keepRound 38 = .ok (.iconst 1, 1) := by decide +kernel
theorem dX4_keepRound_39 : decode cX4_keepRound 39 = .ok (.iadd, 1) := by decide +kernel
theorem dX4_keepRound_40 : decode cX4_keepRound 40 = .ok (.putfield 59, 3) := by decide +kernel
theorem dX4_keepRound_43 : decode cX4_keepRound 43 = .ok (.return_, 1) := by decide +kernel
theorem dX4_areAlike_0 : decode cX4_areAlike 0 = .ok (.aload_n 0, 1) := by decide +kernel
theorem dX4_areAlike_1 : decode cX4_areAlike 1 = .ok (.getfield 30, 3) := by decide +kernel
theorem dX4_areAlike_4 : decode cX4_areAlike 4 = .ok (.iload_n 1, 1) := by decide +kernel
theorem dX4_areAlike_5 : decode cX4_areAlike 5 = .ok (.iaload, 1) := by decide +kernel
theorem dX4_areAlike_6 : decode cX4_areAlike 6 = .ok (.aload_n 0, 1) := by decide +kernel
theorem dX4_areAlike_7 : decode cX4_areAlike 7 = .ok (.getfield 30, 3) := by decide +kernel
theorem dX4_areAlike_10 : decode cX4_areAlike 10 = .ok (.iload_n 2, 1) := by decide +kernel
theorem dX4_areAlike_11 : decode cX4_areAlike 11 = .ok (.iaload, 1) := by decide +kernel
theorem dX4_areAlike_12 : decode cX4_areAlike 12 = .ok (.if_icmp .ne 7, 3) := by decide +kernel
theorem dX4_areAlike_15 : decode cX4_areAlike 15 = .ok (.iconst 1, 1) := by decide +kernel
theorem dX4_areAlike_16 : decode cX4_areAlike 16 = .ok (.goto 4, 3) := by decide +kernel
theorem dX4_areAlike_19 : decode cX4_areAlike 19 = .ok (.iconst 0, 1) := by decide +kernel
theorem dX4_areAlike_20 : decode cX4_areAlike 20 = .ok (.ireturn, 1) := by decide +kernel
theorem dX4_arePartedBy_0 : decode cX4_arePartedBy 0 = .ok (.aload_n 0, 1) := by decide +kernel
theorem dX4_arePartedBy_1 : decode cX4_arePartedBy 1 = .ok (.getfield 36, 3) := by decide +kernel
theorem dX4_arePartedBy_4 : decode cX4_arePartedBy 4 = .ok (.iload_n 1, 1) := by decide +kernel
theorem dX4_arePartedBy_5 : decode cX4_arePartedBy 5 = .ok (.sipush 200, 3) := by decide +kernel
theorem dX4_arePartedBy_8 : decode cX4_arePartedBy 8 = .ok (.imul, 1) := by decide +kernel
theorem dX4_arePartedBy_9 : decode cX4_arePartedBy 9 = .ok (.iload_n 2, 1) := by decide +kernel
theorem dX4_arePartedBy_10 : decode cX4_arePartedBy 10 = .ok (.iadd, 1) := by decide +kernel
theorem dX4_arePartedBy_11 : decode cX4_arePartedBy 11 = .ok (.iaload, 1) := by decide +kernel
theorem dX4_arePartedBy_12 : decode cX4_arePartedBy 12 = .ok (.aload_n 0, 1) := by decide +kernel
theorem dX4_arePartedBy_13 : decode cX4_arePartedBy 13 = .ok (.getfield 36, 3) := by decide +kernel
theorem dX4_arePartedBy_16 : decode cX4_arePartedBy 16 = .ok (.iload_n 1, 1) := by decide +kernel
theorem dX4_arePartedBy_17 : decode cX4_arePartedBy 17 = .ok (.sipush 200, 3) := by decide +kernel
theorem dX4_arePartedBy_20 : decode cX4_arePartedBy 20 = .ok (.imul, 1) := by decide +kernel
theorem dX4_arePartedBy_21 : decode cX4_arePartedBy 21 = .ok (.iload_n 3, 1) := by decide +kernel
theorem dX4_arePartedBy_22 : decode cX4_arePartedBy 22 = .ok (.iadd, 1) := by decide +kernel
theorem dX4_arePartedBy_23 : decode cX4_arePartedBy 23 = .ok (.iaload, 1) := by decide +kernel
theorem dX4_arePartedBy_24 : decode cX4_arePartedBy 24 = .ok (.if_icmp .eq 7, 3) := by decide +kernel
theorem dX4_arePartedBy_27 : decode cX4_arePartedBy 27 = .ok (.iconst 1, 1) := by decide +kernel
theorem dX4_arePartedBy_28 : decode cX4_arePartedBy 28 = .ok (.goto 4, 3) := by decide +kernel
theorem dX4_arePartedBy_31 : decode cX4_arePartedBy 31 = .ok (.iconst 0, 1) := by decide +kernel
theorem dX4_arePartedBy_32 : decode cX4_arePartedBy 32 = .ok (.ireturn, 1) := by decide +kernel
theorem dX4_partingRow_0 : decode cX4_partingRow 0 = .ok (.iconst 0, 1) := by decide +kernel
theorem dX4_partingRow_1 : decode cX4_partingRow 1 = .ok (.istore_n 3, 1) := by decide +kernel
theorem dX4_partingRow_2 : decode cX4_partingRow 2 = .ok (.iload_n 3, 1) := by decide +kernel
theorem dX4_partingRow_3 : decode cX4_partingRow 3 = .ok (.aload_n 0, 1) := by decide +kernel
theorem dX4_partingRow_4 : decode cX4_partingRow 4 = .ok (.getfield 59, 3) := by decide +kernel
theorem dX4_partingRow_7 : decode cX4_partingRow 7 = .ok (.if_icmp .ge 19, 3) := by decide +kernel
theorem dX4_partingRow_10 : decode cX4_partingRow 10 = .ok (.aload_n 0, 1) := by decide +kernel
theorem dX4_partingRow_11 : decode cX4_partingRow 11 = .ok (.iload_n 3, 1) := by decide +kernel
theorem dX4_partingRow_12 : decode cX4_partingRow 12 = .ok (.iload_n 1, 1) := by decide +kernel
theorem dX4_partingRow_13 : decode cX4_partingRow 13 = .ok (.iload_n 2, 1) := by decide +kernel
theorem dX4_partingRow_14 : decode cX4_partingRow 14 = .ok (.invokevirtual 116, 3) := by decide +kernel
theorem dX4_partingRow_17 : decode cX4_partingRow 17 = .ok (.ifCond .ne 9, 3) := by decide +kernel
theorem dX4_partingRow_20 : decode cX4_partingRow 20 = .ok (.iinc 3 1, 3) := by decide +kernel
theorem dX4_partingRow_23 : decode cX4_partingRow 23 = .ok (.goto (-21), 3) := by decide +kernel
theorem dX4_partingRow_26 : decode cX4_partingRow 26 = .ok (.iload_n 3, 1) := by decide +kernel
theorem dX4_partingRow_27 : decode cX4_partingRow 27 = .ok (.aload_n 0, 1) := by decide +kernel
theorem dX4_partingRow_28 : decode cX4_partingRow 28 = .ok (.getfield 59, 3) := by decide +kernel
theorem dX4_partingRow_31 : decode cX4_partingRow 31 = .ok (.if_icmp .lt 6, 3) := by decide +kernel
theorem dX4_partingRow_34 : decode cX4_partingRow 34 = .ok (.bipush (-8), 2) := by decide +kernel
theorem dX4_partingRow_36 : decode cX4_partingRow 36 = .ok (.ireturn, 1) := by decide +kernel
theorem dX4_partingRow_37 : decode cX4_partingRow 37 = .ok (.iconst 1, 1) := by decide +kernel
theorem dX4_partingRow_38 : decode cX4_partingRow 38 = .ok (.istore 4, 2) := by decide +kernel
theorem dX4_partingRow_40 : decode cX4_partingRow 40 = .ok (.iload_n 1, 1) := by decide +kernel
theorem dX4_partingRow_41 : decode cX4_partingRow 41 = .ok (.istore 5, 2) := by decide +kernel
theorem dX4_partingRow_43 : decode cX4_partingRow 43 = .ok (.iload_n 2, 1) := by decide +kernel
theorem dX4_partingRow_44 : decode cX4_partingRow 44 = .ok (.istore 6, 2) := by decide +kernel
theorem dX4_partingRow_46 : decode cX4_partingRow 46 = .ok (.iload_n 3, 1) := by decide +kernel
theorem dX4_partingRow_47 : decode cX4_partingRow 47 = .ok (.istore 7, 2) := by decide +kernel
theorem dX4_partingRow_49 : decode cX4_partingRow 49 = .ok (.iload 7, 2) := by decide +kernel
theorem dX4_partingRow_51 : decode cX4_partingRow 51 = .ok (.ifCond .le 60, 3) := by decide +kernel
theorem dX4_partingRow_54 : decode cX4_partingRow 54 = .ok (.aload_n 0, 1) := by decide +kernel
theorem dX4_partingRow_55 : decode cX4_partingRow 55 = .ok (.iload 7, 2) := by decide +kernel
theorem dX4_partingRow_57 : decode cX4_partingRow 57 = .ok (.iconst 1, 1) := by decide +kernel
theorem dX4_partingRow_58 : decode cX4_partingRow 58 = .ok (.isub, 1) := by decide +kernel
theorem dX4_partingRow_59 : decode cX4_partingRow 59 = .ok (.iload 5, 2) := by decide +kernel
theorem dX4_partingRow_61 : decode cX4_partingRow 61 = .ok (.iload 6, 2) := by decide +kernel
theorem dX4_partingRow_63 : decode cX4_partingRow 63 = .ok (.invokevirtual 120, 3) := by decide +kernel
theorem dX4_partingRow_66 : decode cX4_partingRow 66 = .ok (.istore 8, 2) := by decide +kernel
theorem dX4_partingRow_68 : decode cX4_partingRow 68 = .ok (.iconst 4, 1) := by decide +kernel
theorem dX4_partingRow_69 : decode cX4_partingRow 69 = .ok (.iload 4, 2) := by decide +kernel
theorem dX4_partingRow_71 : decode cX4_partingRow 71 = .ok (.imul, 1) := by decide +kernel
theorem dX4_partingRow_72 : decode cX4_partingRow 72 = .ok (.iload 8, 2) := by decide +kernel
theorem dX4_partingRow_74 : decode cX4_partingRow 74 = .ok (.iadd, 1) := by decide +kernel
theorem dX4_partingRow_75 : decode cX4_partingRow 75 = .ok (.istore 4, 2) := by decide +kernel
theorem dX4_partingRow_77 : decode cX4_partingRow 77 = .ok (.aload_n 0, 1) := by decide +kernel
theorem dX4_partingRow_78 : decode cX4_partingRow 78 = .ok (.getfield 23, 3) := by decide +kernel
theorem dX4_partingRow_81 : decode cX4_partingRow 81 = .ok (.iload 5, 2) := by decide +kernel
theorem dX4_partingRow_83 : decode cX4_partingRow 83 = .ok (.iconst 4, 1) := by decide +kernel
theorem dX4_partingRow_84 : decode cX4_partingRow 84 = .ok (.imul, 1) := by decide +kernel
theorem dX4_partingRow_85 : decode cX4_partingRow 85 = .ok (.iload 8, 2) := by decide +kernel
theorem dX4_partingRow_87 : decode cX4_partingRow 87 = .ok (.iadd, 1) := by decide +kernel
theorem dX4_partingRow_88 : decode cX4_partingRow 88 = .ok (.iaload, 1) := by decide +kernel
theorem dX4_partingRow_89 : decode cX4_partingRow 89 = .ok (.istore 5, 2) := by decide +kernel
theorem dX4_partingRow_91 : decode cX4_partingRow 91 = .ok (.aload_n 0, 1) := by decide +kernel
theorem dX4_partingRow_92 : decode cX4_partingRow 92 = .ok (.getfield 23, 3) := by decide +kernel
theorem dX4_partingRow_95 : decode cX4_partingRow 95 = .ok (.iload 6, 2) := by decide +kernel
theorem dX4_partingRow_97 : decode cX4_partingRow 97 = .ok (.iconst 4, 1) := by decide +kernel
theorem dX4_partingRow_98 : decode cX4_partingRow 98 = .ok (.imul, 1) := by decide +kernel
theorem dX4_partingRow_99 : decode cX4_partingRow 99 = .ok (.iload 8, 2) := by decide +kernel
theorem dX4_partingRow_101 : decode cX4_partingRow 101 = .ok (.iadd, 1) := by decide +kernel
theorem dX4_partingRow_102 : decode cX4_partingRow 102 = .ok (.iaload, 1) := by decide +kernel
theorem dX4_partingRow_103 : decode cX4_partingRow 103 = .ok (.istore 6, 2) := by decide +kernel
theorem dX4_partingRow_105 : decode cX4_partingRow 105 = .ok (.iinc 7 (-1), 3) := by decide +kernel
theorem dX4_partingRow_108 : decode cX4_partingRow 108 = .ok (.goto (-59), 3) := by decide +kernel
theorem dX4_partingRow_111 : decode cX4_partingRow 111 = .ok (.iconst 4, 1) := by decide +kernel
theorem dX4_partingRow_112 : decode cX4_partingRow 112 = .ok (.iload 4, 2) := by decide +kernel
theorem dX4_partingRow_114 : decode cX4_partingRow 114 = .ok (.imul, 1) := by decide +kernel
theorem dX4_partingRow_115 : decode cX4_partingRow 115 = .ok (.aload_n 0, 1) := by decide +kernel
theorem dX4_partingRow_116 : decode cX4_partingRow 116 = .ok (.aload_n 0, 1) := by decide +kernel
theorem dX4_partingRow_117 : decode cX4_partingRow 117 = .ok (.getfield 27, 3) := by decide +kernel
theorem dX4_partingRow_120 : decode cX4_partingRow 120 = .ok (.iload 5, 2) := by decide +kernel
theorem dX4_partingRow_122 : decode cX4_partingRow 122 = .ok (.iaload, 1) := by decide +kernel
theorem dX4_partingRow_123 : decode cX4_partingRow 123 = .ok (.aload_n 0, 1) := by decide +kernel
theorem dX4_partingRow_124 : decode cX4_partingRow 124 = .ok (.getfield 27, 3) := by decide +kernel
theorem dX4_partingRow_127 : decode cX4_partingRow 127 = .ok (.iload 6, 2) := by decide +kernel
theorem dX4_partingRow_129 : decode cX4_partingRow 129 = .ok (.iaload, 1) := by decide +kernel
theorem dX4_partingRow_130 : decode cX4_partingRow 130 = .ok (.ixor, 1) := by decide +kernel
theorem dX4_partingRow_131 : decode cX4_partingRow 131 = .ok (.invokevirtual 124, 3) := by decide +kernel
theorem dX4_partingRow_134 : decode cX4_partingRow 134 = .ok (.iadd, 1) := by decide +kernel
theorem dX4_partingRow_135 : decode cX4_partingRow 135 = .ok (.ireturn, 1) := by decide +kernel
theorem dX4_firstPartingLetter_0 : decode cX4_firstPartingLetter 0 = .ok (.iconst 0, 1) := by decide +kernel
theorem dX4_firstPartingLetter_1 : decode cX4_firstPartingLetter 1 = .ok (.istore 4, 2) := by decide +kernel
theorem dX4_firstPartingLetter_3 : decode cX4_firstPartingLetter 3 = .ok (.iload 4, 2) := by decide +kernel
theorem dX4_firstPartingLetter_5 : decode cX4_firstPartingLetter 5 = .ok (.aload_n 0, 1) := by decide +kernel
theorem dX4_firstPartingLetter_6 : decode cX4_firstPartingLetter 6 = .ok (.getfield 46, 3) := by decide +kernel
theorem dX4_firstPartingLetter_9 : decode cX4_firstPartingLetter 9 = .ok (.if_icmp .ge 42, 3) := by decide +kernel
theorem dX4_firstPartingLetter_12 : decode cX4_firstPartingLetter 12 = .ok (.aload_n 0, 1) := by decide +kernel
theorem dX4_firstPartingLetter_13 : decode cX4_firstPartingLetter 13 = .ok (.iload_n 1, 1) := by decide +kernel
theorem dX4_firstPartingLetter_14 : decode cX4_firstPartingLetter 14 = .ok (.aload_n 0, 1) := by decide +kernel
theorem dX4_firstPartingLetter_15 : decode cX4_firstPartingLetter 15 = .ok (.getfield 23, 3) := by decide +kernel
theorem dX4_firstPartingLetter_18 : decode cX4_firstPartingLetter 18 = .ok (.iload_n 2, 1) := by decide +kernel
theorem dX4_firstPartingLetter_19 : decode cX4_firstPartingLetter 19 = .ok (.iconst 4, 1) := by decide +kernel
theorem dX4_firstPartingLetter_20 : decode cX4_firstPartingLetter 20 = .ok (.imul, 1) := by decide +kernel
theorem dX4_firstPartingLetter_21 : decode cX4_firstPartingLetter 21 = .ok (.iload 4, 2) := by decide +kernel
theorem dX4_firstPartingLetter_23 : decode cX4_firstPartingLetter 23 = .ok (.iadd, 1) := by decide +kernel
theorem dX4_firstPartingLetter_24 : decode cX4_firstPartingLetter 24 = .ok (.iaload, 1) := by decide +kernel
theorem dX4_firstPartingLetter_25 : decode cX4_firstPartingLetter 25 = .ok (.aload_n 0, 1) := by decide +kernel
theorem dX4_firstPartingLetter_26 : decode cX4_firstPartingLetter 26 = .ok (.getfield 23, 3) := by decide +kernel
theorem dX4_firstPartingLetter_29 : decode cX4_firstPartingLetter 29 = .ok (.iload_n 3, 1) := by decide +kernel
theorem dX4_firstPartingLetter_30 : decode cX4_firstPartingLetter 30 = .ok (.iconst 4, 1) := by decide +kernel
theorem dX4_firstPartingLetter_31 : decode cX4_firstPartingLetter 31 = .ok (.imul, 1) := by decide +kernel
theorem dX4_firstPartingLetter_32 : decode cX4_firstPartingLetter 32 = .ok (.iload 4, 2) := by decide +kernel
theorem dX4_firstPartingLetter_34 : decode cX4_firstPartingLetter 34 = .ok (.iadd, 1) := by decide +kernel
theorem dX4_firstPartingLetter_35 : decode cX4_firstPartingLetter 35 = .ok (.iaload, 1) := by decide +kernel
theorem dX4_firstPartingLetter_36 : decode cX4_firstPartingLetter 36 = .ok (.invokevirtual 116, 3) := by decide +kernel
theorem dX4_firstPartingLetter_39 : decode cX4_firstPartingLetter 39 = .ok (.ifCond .eq 6, 3) := by decide +kernel
theorem dX4_firstPartingLetter_42 : decode cX4_firstPartingLetter 42 = .ok (.iload 4, 2) := by decide +kernel
theorem dX4_firstPartingLetter_44 : decode cX4_firstPartingLetter 44 = .ok (.ireturn, 1) := by decide +kernel
theorem dX4_firstPartingLetter_45 : decode cX4_firstPartingLetter 45 = .ok (.iinc 4 1, 3) := by decide +kernel
theorem dX4_firstPartingLetter_48 : decode cX4_firstPartingLetter 48 = .ok (.goto (-45), 3) := by decide +kernel
theorem dX4_firstPartingLetter_51 : decode cX4_firstPartingLetter 51 = .ok (.iconst 0, 1) := by decide +kernel
theorem dX4_firstPartingLetter_52 : decode cX4_firstPartingLetter 52 = .ok (.ireturn, 1) := by decide +kernel
theorem dX4_firstUnlikeLetter_0 : decode cX4_firstUnlikeLetter 0 = .ok (.iconst 0, 1) := by decide +kernel
theorem dX4_firstUnlikeLetter_1 : decode cX4_firstUnlikeLetter 1 = .ok (.istore_n 2, 1) := by decide +kernel
theorem dX4_firstUnlikeLetter_2 : decode cX4_firstUnlikeLetter 2 = .ok (.iload_n 2, 1) := by decide +kernel
theorem dX4_firstUnlikeLetter_3 : decode cX4_firstUnlikeLetter 3 = .ok (.aload_n 0, 1) := by decide +kernel
theorem dX4_firstUnlikeLetter_4 : decode cX4_firstUnlikeLetter 4 = .ok (.getfield 46, 3) := by decide +kernel
theorem dX4_firstUnlikeLetter_7 : decode cX4_firstUnlikeLetter 7 = .ok (.if_icmp .ge 21, 3) := by decide +kernel
theorem dX4_firstUnlikeLetter_10 : decode cX4_firstUnlikeLetter 10 = .ok (.iload_n 1, 1) := by decide +kernel
theorem dX4_firstUnlikeLetter_11 : decode cX4_firstUnlikeLetter 11 = .ok (.iconst 2, 1) := by decide +kernel
theorem dX4_firstUnlikeLetter_12 : decode cX4_firstUnlikeLetter 12 = .ok (.iload_n 2, 1) := by decide +kernel
theorem dX4_firstUnlikeLetter_13 : decode cX4_firstUnlikeLetter 13 = .ok (.imul, 1) := by decide +kernel
theorem dX4_firstUnlikeLetter_14 : decode cX4_firstUnlikeLetter 14 = .ok (.ishr, 1) := by decide +kernel
theorem dX4_firstUnlikeLetter_15 : decode cX4_firstUnlikeLetter 15 = .ok (.iconst 3, 1) := by decide +kernel
theorem dX4_firstUnlikeLetter_16 : decode cX4_firstUnlikeLetter 16 = .ok (.iand, 1) := by decide +kernel
theorem dX4_firstUnlikeLetter_17 : decode cX4_firstUnlikeLetter 17 = .ok (.ifCond .eq 5, 3) := by decide +kernel
theorem dX4_firstUnlikeLetter_20 : decode cX4_firstUnlikeLetter 20 = .ok (.iload_n 2, 1) := by decide +kernel
theorem dX4_firstUnlikeLetter_21 : decode cX4_firstUnlikeLetter 21 = .ok (.ireturn, 1) := by decide +kernel
theorem dX4_firstUnlikeLetter_22 : decode cX4_firstUnlikeLetter 22 = .ok (.iinc 2 1, 3) := by decide +kernel
theorem dX4_firstUnlikeLetter_25 : decode cX4_firstUnlikeLetter 25 = .ok (.goto (-23), 3) := by decide +kernel
theorem dX4_firstUnlikeLetter_28 : decode cX4_firstUnlikeLetter 28 = .ok (.iconst 0, 1) := by decide +kernel
theorem dX4_firstUnlikeLetter_29 : decode cX4_firstUnlikeLetter 29 = .ok (.ireturn, 1) := by decide +kernel
theorem dX5_lay_0 : decode cX5_lay 0 = .ok (.aload_n 0, 1) := by decide +kernel
theorem dX5_lay_1 : decode cX5_lay 1 = .ok (.getfield 9, 3) := by decide +kernel
theorem dX5_lay_4 : decode cX5_lay 4 = .ok (.iconst 0, 1) := by decide +kernel
theorem dX5_lay_5 : decode cX5_lay 5 = .ok (.invokestatic 15, 3) := by decide +kernel
theorem dX5_lay_8 : decode cX5_lay 8 = .ok (.aload_n 0, 1) := by decide +kernel
theorem dX5_lay_9 : decode cX5_lay 9 = .ok (.iconst 1, 1) := by decide +kernel
theorem dX5_lay_10 : decode cX5_lay 10 = .ok (.putfield 21, 3) := by decide +kernel
theorem dX5_lay_13 : decode cX5_lay 13 = .ok (.aload_n 0, 1) := by decide +kernel
theorem dX5_lay_14 : decode cX5_lay 14 = .ok (.iload_n 1, 1) := by decide +kernel
theorem dX5_lay_15 : decode cX5_lay 15 = .ok (.putfield 25, 3) := by decide +kernel
theorem dX5_lay_18 : decode cX5_lay 18 = .ok (.aload_n 0, 1) := by decide +kernel
theorem dX5_lay_19 : decode cX5_lay 19 = .ok (.iload_n 2, 1) := by decide +kernel
theorem dX5_lay_20 : decode cX5_lay 20 = .ok (.putfield 29, 3) := by decide +kernel
theorem dX5_lay_23 : decode cX5_lay 23 = .ok (.return_, 1) := by decide +kernel
theorem dX5_hasNumber_0 : decode cX5_hasNumber 0 = .ok (.iload_n 1, 1) := by decide +kernel
theorem dX5_hasNumber_1 : decode cX5_hasNumber 1 = .ok (.ifCond .lt 15, 3) := by decide +kernel
theorem dX5_hasNumber_4 : decode cX5_hasNumber 4 = .ok (.iload_n 1, 1) := by decide +kernel
theorem dX5_hasNumber_5 : decode cX5_hasNumber 5 = .ok (.aload_n 0, 1) := by decide +kernel
theorem dX5_hasNumber_6 : decode cX5_hasNumber 6 = .ok (.getfield 29, 3) := by decide +kernel
theorem dX5_hasNumber_9 : decode cX5_hasNumber 9 = .ok (.if_icmp .ge 7, 3) := by decide +kernel
theorem dX5_hasNumber_12 : decode cX5_hasNumber 12 = .ok (.iconst 1, 1) := by decide +kernel
theorem dX5_hasNumber_13 : decode cX5_hasNumber 13 = .ok (.goto 4, 3) := by decide +kernel
theorem dX5_hasNumber_16 : decode cX5_hasNumber 16 = .ok (.iconst 0, 1) := by decide +kernel
theorem dX5_hasNumber_17 : decode cX5_hasNumber 17 = .ok (.ireturn, 1) := by decide +kernel
theorem dX5_hasPair_0 : decode cX5_hasPair 0 = .ok (.iload_n 1, 1) := by decide +kernel
theorem dX5_hasPair_1 : decode cX5_hasPair 1 = .ok (.aload_n 0, 1) := by decide +kernel
theorem dX5_hasPair_2 : decode cX5_hasPair 2 = .ok (.getfield 29, 3) := by decide +kernel
theorem dX5_hasPair_5 : decode cX5_hasPair 5 = .ok (.if_icmp .ge 21, 3) := by decide +kernel
theorem dX5_hasPair_8 : decode cX5_hasPair 8 = .ok (.iload_n 1, 1) := by decide +kernel
theorem dX5_hasPair_9 : decode cX5_hasPair 9 = .ok (.iconst 2, 1) := by decide +kernel
theorem dX5_hasPair_10 : decode cX5_hasPair 10 = .ok (.iload_n 2, 1) := by decide +kernel
theorem dX5_hasPair_11 : decode cX5_hasPair 11 = .ok (.imul, 1) := by decide +kernel
theorem dX5_hasPair_12 : decode cX5_hasPair 12 = .ok (.iadd, 1) := by decide +kernel
theorem dX5_hasPair_13 : decode cX5_hasPair 13 = .ok (.iconst 1, 1) := by decide +kernel
theorem dX5_hasPair_14 : decode cX5_hasPair 14 = .ok (.iadd, 1) := by decide +kernel
theorem dX5_hasPair_15 : decode cX5_hasPair 15 = .ok (.aload_n 0, 1) := by decide +kernel
theorem dX5_hasPair_16 : decode cX5_hasPair 16 = .ok (.getfield 29, 3) := by decide +kernel
theorem dX5_hasPair_19 : decode cX5_hasPair 19 = .ok (.if_icmp .ge 7, 3) := by decide +kernel
theorem dX5_hasPair_22 : decode cX5_hasPair 22 = .ok (.iconst 1, 1) := by decide +kernel
theorem dX5_hasPair_23 : decode cX5_hasPair 23 = .ok (.goto 4, 3) := by decide +kernel
theorem dX5_hasPair_26 : decode cX5_hasPair 26 = .ok (.iconst 0, 1) := by decide +kernel
theorem dX5_hasPair_27 : decode cX5_hasPair 27 = .ok (.ireturn, 1) := by decide +kernel
theorem dX5_write_0 : decode cX5_write 0 = .ok (.aload_n 0, 1) := by decide +kernel
theorem dX5_write_1 : decode cX5_write 1 = .ok (.getfield 25, 3) := by decide +kernel
theorem dX5_write_4 : decode cX5_write 4 = .ok (.lookupswitch 50 #[(0, 28), (1, 39)], 28) := by decide +kernel
theorem dX5_write_32 : decode cX5_write 32 = .ok (.aload_n 0, 1) := by decide +kernel
theorem dX5_write_33 : decode cX5_write 33 = .ok (.getfield 9, 3) := by decide +kernel
theorem dX5_write_36 : decode cX5_write 36 = .ok (.iload_n 1, 1) := by decide +kernel
theorem dX5_write_37 : decode cX5_write 37 = .ok (.iload_n 2, 1) := by decide +kernel
theorem dX5_write_38 : decode cX5_write 38 = .ok (.i2b, 1) := by decide +kernel
theorem dX5_write_39 : decode cX5_write 39 = .ok (.iastore, 1) := by decide +kernel
theorem dX5_write_40 : decode cX5_write 40 = .ok (.goto 21, 3) := by decide +kernel
theorem dX5_write_43 : decode cX5_write 43 = .ok (.aload_n 0, 1) := by decide +kernel
theorem dX5_write_44 : decode cX5_write 44 = .ok (.getfield 9, 3) := by decide +kernel
theorem dX5_write_47 : decode cX5_write 47 = .ok (.iload_n 1, 1) := by decide +kernel
theorem dX5_write_48 : decode cX5_write 48 = .ok (.iload_n 2, 1) := by decide +kernel
theorem dX5_write_49 : decode cX5_write 49 = .ok (.i2s, 1) := by decide +kernel
theorem dX5_write_50 : decode cX5_write 50 = .ok (.iastore, 1) := by decide +kernel
theorem dX5_write_51 : decode cX5_write 51 = .ok (.goto 10, 3) := by decide +kernel
theorem dX5_write_54 : decode cX5_write 54 = .ok (.aload_n 0, 1) := by decide +kernel
theorem dX5_write_55 : decode cX5_write 55 = .ok (.getfield 9, 3) := by decide +kernel
theorem dX5_write_58 : decode cX5_write 58 = .ok (.iload_n 1, 1) := by decide +kernel
theorem dX5_write_59 : decode cX5_write 59 = .ok (.iload_n 2, 1) := by decide +kernel
theorem dX5_write_60 : decode cX5_write 60 = .ok (.iastore, 1) := by decide +kernel
theorem dX5_write_61 : decode cX5_write 61 = .ok (.return_, 1) := by decide +kernel
theorem dX6_forget_0 : decode cX6_forget 0 = .ok (.aload_n 0, 1) := by decide +kernel
theorem dX6_forget_1 : decode cX6_forget 1 = .ok (.iconst 0, 1) := by decide +kernel
theorem dX6_forget_2 : decode cX6_forget 2 = .ok (.putfield 45, 3) := by decide +kernel
theorem dX6_forget_5 : decode cX6_forget 5 = .ok (.return_, 1) := by decide +kernel
theorem dX6_gatherWithin_0 : decode cX6_gatherWithin 0 = .ok (.iload_n 2, 1) := by decide +kernel
theorem dX6_gatherWithin_1 : decode cX6_gatherWithin 1 = .ok (.ifCond .lt 8, 3) := by decide +kernel
theorem dX6_gatherWithin_4 : decode cX6_gatherWithin 4 = .ok (.iload_n 2, 1) := by decide +kernel
theorem dX6_gatherWithin_5 : decode cX6_gatherWithin 5 = .ok (.iconst 5, 1) := by decide +kernel
theorem dX6_gatherWithin_6 : decode cX6_gatherWithin 6 = .ok (.if_icmp .le 5, 3) := by decide +kernel
theorem dX6_gatherWithin_9 : decode cX6_gatherWithin 9 = .ok (.iconst (-1), 1) := by decide +kernel
theorem dX6_gatherWithin_10 : decode cX6_gatherWithin 10 = .ok (.ireturn, 1) := by decide +kernel
theorem dX6_gatherWithin_11 : decode cX6_gatherWithin 11 = .ok (.aload_n 1, 1) := by decide +kernel
theorem dX6_gatherWithin_12 : decode cX6_gatherWithin 12 = .ok (.getfield 52, 3) := by decide +kernel
theorem dX6_gatherWithin_15 : decode cX6_gatherWithin 15 = .ok (.ifCond .ne 6, 3) := by decide +kernel
theorem dX6_gatherWithin_18 : decode cX6_gatherWithin 18 = .ok (.bipush (-5), 2) := by decide +kernel
theorem dX6_gatherWithin_20 : decode cX6_gatherWithin 20 = .ok (.ireturn, 1) := by decide +kernel
theorem dX6_gatherWithin_21 : decode cX6_gatherWithin 21 = .ok (.aload_n 0, 1) := by decide +kernel
theorem dX6_gatherWithin_22 : decode cX6_gatherWithin 22 = .ok (.getfield 45, 3) := by decide +kernel
theorem dX6_gatherWithin_25 : decode cX6_gatherWithin 25 = .ok (.bipush 100, 2) := by decide +kernel
theorem dX6_gatherWithin_27 : decode cX6_gatherWithin 27 = .ok (.iload_n 2, 1) := by decide +kernel
theorem dX6_gatherWithin_28 : decode cX6_gatherWithin 28 = .ok (.iadd, 1) := by decide +kernel
theorem dX6_gatherWithin_29 : decode cX6_gatherWithin 29 = .ok (.if_icmp .eq 46, 3) := by decide +kernel
theorem dX6_gatherWithin_32 : decode cX6_gatherWithin 32 = .ok (.aload_n 0, 1) := by decide +kernel
theorem dX6_gatherWithin_33 : decode cX6_gatherWithin 33 = .ok (.bipush 100, 2) := by decide +kernel
theorem dX6_gatherWithin_35 : decode cX6_gatherWithin 35 = .ok (.iload_n 2, 1) := by decide +kernel
theorem dX6_gatherWithin_36 : decode cX6_gatherWithin 36 = .ok (.iadd, 1) := by decide +kernel
theorem dX6_gatherWithin_37 : decode cX6_gatherWithin 37 = .ok (.putfield 45, 3) := by decide +kernel
theorem dX6_gatherWithin_40 : decode cX6_gatherWithin 40 = .ok (.aload_n 0, 1) := by decide +kernel
theorem dX6_gatherWithin_41 : decode cX6_gatherWithin 41 = .ok (.aload_n 0, 1) := by decide +kernel
theorem dX6_gatherWithin_42 : decode cX6_gatherWithin 42 = .ok (.aload_n 1, 1) := by decide +kernel
theorem dX6_gatherWithin_43 : decode cX6_gatherWithin 43 = .ok (.iload_n 2, 1) := by decide +kernel
theorem dX6_gatherWithin_44 : decode cX6_gatherWithin 44 = .ok (.invokevirtual 57, 3) := by decide +kernel
theorem dX6_gatherWithin_47 : decode cX6_gatherWithin 47 = .ok (.putfield 48, 3) := by decide +kernel
theorem dX6_gatherWithin_50 : decode cX6_gatherWithin 50 = .ok (.aload_n 0, 1) := by decide +kernel
theorem dX6_gatherWithin_51 : decode cX6_gatherWithin 51 = .ok (.getfield 48, 3) := by decide +kernel
theorem dX6_gatherWithin_54 : decode cX6_gatherWithin 54 = .ok (.ifCond .eq 21, 3) := by decide +kernel
theorem dX6_gatherWithin_57 : decode cX6_gatherWithin 57 = .ok (.aload_n 0, 1) := by decide +kernel
theorem dX6_gatherWithin_58 : decode cX6_gatherWithin 58 = .ok (.getfield 12, 3) := by decide +kernel
theorem dX6_gatherWithin_61 : decode cX6_gatherWithin 61 = .ok (.aload_n 1, 1) := by decide +kernel
theorem dX6_gatherWithin_62 : decode cX6_gatherWithin 62 = .ok (.invokevirtual 61, 3) := by decide +kernel
theorem dX6_gatherWithin_65 : decode cX6_gatherWithin 65 = .ok (.ifCond .eq 10, 3) := by decide +kernel
theorem dX6_gatherWithin_68 : decode cX6_gatherWithin 68 = .ok (.aload_n 0, 1) := by decide +kernel
theorem dX6_gatherWithin_69 : decode cX6_gatherWithin 69 = .ok (.getfield 12, 3) := by decide +kernel
theorem dX6_gatherWithin_72 : decode cX6_gatherWithin 72 = .ok (.invokevirtual 65, 3) := by decide +kernel
theorem dX6_gatherWithin_75 : decode cX6_gatherWithin 75 = .ok (.aload_n 0, 1) := by decide +kernel
theorem dX6_gatherWithin_76 : decode cX6_gatherWithin 76 = .ok (.getfield 48, 3) := by decide +kernel
theorem dX6_gatherWithin_79 : decode cX6_gatherWithin 79 = .ok (.ifCond .eq 7, 3) := by decide +kernel
theorem dX6_gatherWithin_82 : decode cX6_gatherWithin 82 = .ok (.iconst 0, 1) := by decide +kernel
theorem dX6_gatherWithin_83 : decode cX6_gatherWithin 83 = .ok (.goto 5, 3) := by decide +kernel
theorem dX6_gatherWithin_86 : decode cX6_gatherWithin 86 = .ok (.bipush (-7), 2) := by decide +kernel
theorem dX6_gatherWithin_88 : decode cX6_gatherWithin 88 = .ok (.ireturn, 1) := by decide +kernel
theorem dX6_enterWithin_0 : decode cX6_enterWithin 0 = .ok (.aload_n 0, 1) := by decide +kernel
theorem dX6_enterWithin_1 : decode cX6_enterWithin 1 = .ok (.invokevirtual 68, 3) := by decide +kernel
theorem dX6_enterWithin_4 : decode cX6_enterWithin 4 = .ok (.iconst 0, 1) := by decide +kernel
theorem dX6_enterWithin_5 : decode cX6_enterWithin 5 = .ok (.istore_n 3, 1) := by decide +kernel
theorem dX6_enterWithin_6 : decode cX6_enterWithin 6 = .ok (.iconst 1, 1) := by decide +kernel
theorem dX6_enterWithin_7 : decode cX6_enterWithin 7 = .ok (.istore 4, 2) := by decide +kernel
theorem dX6_enterWithin_9 : decode cX6_enterWithin 9 = .ok (.iload 4, 2) := by decide +kernel
theorem dX6_enterWithin_11 : decode cX6_enterWithin 11 = .ok (.iload_n 2, 1) := by decide +kernel
theorem dX6_enterWithin_12 : decode cX6_enterWithin 12 = .ok (.if_icmp .gt 52, 3) := by decide +kernel
theorem dX6_enterWithin_15 : decode cX6_enterWithin 15 = .ok (.aload_n 0, 1) := by decide +kernel
theorem dX6_enterWithin_16 : decode cX6_enterWithin 16 = .ok (.getfield 12, 3) := by decide +kernel
theorem dX6_enterWithin_19 : decode cX6_enterWithin 19 = .ok (.getfield 71, 3) := by decide +kernel
theorem dX6_enterWithin_22 : decode cX6_enterWithin 22 = .ok (.getfield 75, 3) := by decide +kernel
theorem dX6_enterWithin_25 : decode cX6_enterWithin 25 = .ok (.istore 5, 2) := by decide +kernel
theorem dX6_enterWithin_27 : decode cX6_enterWithin 27 = .ok (.iload_n 3, 1) := by decide +kernel
theorem dX6_enterWithin_28 : decode cX6_enterWithin 28 = .ok (.istore 6, 2) := by decide +kernel
theorem dX6_enterWithin_30 : decode cX6_enterWithin 30 = .ok (.iload 6, 2) := by decide +kernel
theorem dX6_enterWithin_32 : decode cX6_enterWithin 32 = .ok (.iload 5, 2) := by decide +kernel
theorem dX6_enterWithin_34 : decode cX6_enterWithin 34 = .ok (.if_icmp .ge 21, 3) := by decide +kernel
theorem dX6_enterWithin_37 : decode cX6_enterWithin 37 = .ok (.aload_n 0, 1) := by decide +kernel
theorem dX6_enterWithin_38 : decode cX6_enterWithin 38 = .ok (.aload_n 1, 1) := by decide +kernel
theorem dX6_enterWithin_39 : decode cX6_enterWithin 39 = .ok (.iload 6, 2) := by decide +kernel
theorem dX6_enterWithin_41 : decode cX6_enterWithin 41 = .ok (.invokevirtual 80, 3) := by decide +kernel
theorem dX6_enterWithin_44 : decode cX6_enterWithin 44 = .ok (.ifCond .ne 5, 3) := by decide +kernel
theorem dX6_enterWithin_47 : decode cX6_enterWithin 47 = .ok (.iconst 0, 1) := by decide +kernel
theorem dX6_enterWithin_48 : decode cX6_enterWithin 48 = .ok (.ireturn, 1) := by decide +kernel
theorem dX6_enterWithin_49 : decode cX6_enterWithin 49 = .ok (.iinc 6 1, 3) := by decide +kernel
theorem dX6_enterWithin_52 : decode cX6_enterWithin 52 = .ok (.goto (-22), 3) := by decide +kernel
theorem dX6_enterWithin_55 : decode cX6_enterWithin 55 = .ok (.iload 5, 2) := by decide +kernel
theorem dX6_enterWithin_57 : decode cX6_enterWithin 57 = .ok (.istore_n 3, 1) := by decide +kernel
theorem dX6_enterWithin_58 : decode cX6_enterWithin 58 = .ok (.iinc 4 1, 3) := by decide +kernel
theorem dX6_enterWithin_61 : decode cX6_enterWithin 61 = .ok (.goto (-52), 3) := by decide +kernel
theorem dX6_enterWithin_64 : decode cX6_enterWithin 64 = .ok (.iconst 1, 1) := by decide +kernel
theorem dX6_enterWithin_65 : decode cX6_enterWithin 65 = .ok (.ireturn, 1) := by decide +kernel
theorem dX6_beginWithEmpty_0 : decode cX6_beginWithEmpty 0 = .ok (.aload_n 0, 1) := by decide +kernel
theorem dX6_beginWithEmpty_1 : decode cX6_beginWithEmpty 1 = .ok (.getfield 12, 3) := by decide +kernel
theorem dX6_beginWithEmpty_4 : decode cX6_beginWithEmpty 4 = .ok (.invokevirtual 83, 3) := by decide +kernel
theorem dX6_beginWithEmpty_7 : decode cX6_beginWithEmpty 7 = .ok (.aload_n 0, 1) := by decide +kernel
theorem dX6_beginWithEmpty_8 : decode cX6_beginWithEmpty 8 = .ok (.getfield 21, 3) := by decide +kernel
theorem dX6_beginWithEmpty_11 : decode cX6_beginWithEmpty 11 = .ok (.invokevirtual 86, 3) := by decide +kernel
theorem dX6_beginWithEmpty_14 : decode cX6_beginWithEmpty 14 = .ok (.aload_n 0, 1) := by decide +kernel
theorem dX6_beginWithEmpty_15 : decode cX6_beginWithEmpty 15 = .ok (.getfield 12, 3) := by decide +kernel
theorem dX6_beginWithEmpty_18 : decode cX6_beginWithEmpty 18 = .ok (.aload_n 0, 1) := by decide +kernel
theorem dX6_beginWithEmpty_19 : decode cX6_beginWithEmpty 19 = .ok (.getfield 21, 3) := by decide +kernel
theorem dX6_beginWithEmpty_22 : decode cX6_beginWithEmpty 22 = .ok (.invokevirtual 89, 3) := by decide +kernel
theorem dX6_beginWithEmpty_25 : decode cX6_beginWithEmpty 25 = .ok (.pop, 1) := by decide +kernel
theorem dX6_beginWithEmpty_26 : decode cX6_beginWithEmpty 26 = .ok (.return_, 1) := by decide +kernel
theorem dX6_extend_0 : decode cX6_extend 0 = .ok (.iconst 0, 1) := by decide +kernel
theorem dX6_extend_1 : decode cX6_extend 1 = .ok (.istore_n 3, 1) := by decide +kernel
theorem dX6_extend_2 : decode cX6_extend 2 = .ok (.iload_n 3, 1) := by decide +kernel
theorem dX6_extend_3 : decode cX6_extend 3 = .ok (.aload_n 1, 1) := by decide +kernel
theorem dX6_extend_4 : decode cX6_extend 4 = .ok (.getfield 93, 3) := by decide +kernel
theorem dX6_extend_7 : decode cX6_extend 7 = .ok (.if_icmp .ge 72, 3) := by decide +kernel
theorem dX6_extend_10 : decode cX6_extend 10 = .ok (.aload_n 0, 1) := by decide +kernel
theorem dX6_extend_11 : decode cX6_extend 11 = .ok (.getfield 12, 3) := by decide +kernel
theorem dX6_extend_14 : decode cX6_extend 14 = .ok (.iload_n 2, 1) := by decide +kernel
theorem dX6_extend_15 : decode cX6_extend 15 = .ok (.aload_n 0, 1) := by decide +kernel
theorem dX6_extend_16 : decode cX6_extend 16 = .ok (.getfield 21, 3) := by decide +kernel
theorem dX6_extend_19 : decode cX6_extend 19 = .ok (.invokevirtual 96, 3) := by decide +kernel
theorem dX6_extend_22 : decode cX6_extend 22 = .ok (.aload_n 0, 1) := by decide +kernel
theorem dX6_extend_23 : decode cX6_extend 23 = .ok (.getfield 21, 3) := by decide +kernel
theorem dX6_extend_26 : decode cX6_extend 26 = .ok (.getfield 100, 3) := by decide +kernel
theorem dX6_extend_29 : decode cX6_extend 29 = .ok (.istore 4, 2) := by decide +kernel
theorem dX6_extend_31 : decode cX6_extend 31 = .ok (.aload_n 0, 1) := by decide +kernel
theorem dX6_extend_32 : decode cX6_extend 32 = .ok (.getfield 21, 3) := by decide +kernel
theorem dX6_extend_35 : decode cX6_extend 35 = .ok (.aload_n 1, 1) := by decide +kernel
theorem dX6_extend_36 : decode cX6_extend 36 = .ok (.getfield 103, 3) := by decide +kernel
theorem dX6_extend_39 : decode cX6_extend 39 = .ok (.iload_n 3, 1) := by decide +kernel
theorem dX6_extend_40 : decode cX6_extend 40 = .ok (.iaload, 1) := by decide +kernel
theorem dX6_extend_41 : decode cX6_extend 41 = .ok (.invokevirtual 106, 3) := by decide +kernel
theorem dX6_extend_44 : decode cX6_extend 44 = .ok (.pop, 1) := by decide +kernel
theorem dX6_extend_45 : decode cX6_extend 45 = .ok (.aload_n 0, 1) := by decide +kernel
theorem dX6_extend_46 : decode cX6_extend 46 = .ok (.getfield 21, 3) := by decide +kernel
theorem dX6_extend_49 : decode cX6_extend 49 = .ok (.getfield 100, 3) := by decide +kernel
theorem dX6_extend_52 : decode cX6_extend 52 = .ok (.iload 4, 2) := by decide +kernel
theorem dX6_extend_54 : decode cX6_extend 54 = .ok (.if_icmp .le 19, 3) := by decide +kernel
theorem dX6_extend_57 : decode cX6_extend 57 = .ok (.aload_n 0, 1) := by decide +kernel
theorem dX6_extend_58 : decode cX6_extend 58 = .ok (.getfield 12, 3) := by decide +kernel
theorem dX6_extend_61 : decode cX6_extend 61 = .ok (.aload_n 0, 1) := by decide +kernel
theorem dX6_extend_62 : decode cX6_extend 62 = .ok (.getfield 21, 3) := by decide +kernel
theorem dX6_extend_65 : decode cX6_extend 65 = .ok (.invokevirtual 89, 3) := by decide +kernel
theorem dX6_extend_68 : decode cX6_extend 68 = .ok (.ifCond .ge 5, 3) := by decide +kernel
theorem dX6_extend_71 : decode cX6_extend 71 = .ok (.iconst 0, 1) := by decide +kernel
theorem dX6_extend_72 : decode cX6_extend 72 = .ok (.ireturn, 1) := by decide +kernel
theorem dX6_extend_73 : decode cX6_extend 73 = .ok (.iinc 3 1, 3) := by decide +kernel
theorem dX6_extend_76 : decode cX6_extend 76 = .ok (.goto (-74), 3) := by decide +kernel
theorem dX6_extend_79 : decode cX6_extend 79 = .ok (.iconst 1, 1) := by decide +kernel
theorem dX6_extend_80 : decode cX6_extend 80 = .ok (.ireturn, 1) := by decide +kernel
theorem dX6_isLaw_0 : decode cX6_isLaw 0 = .ok (.iload_n 1, 1) := by decide +kernel
theorem dX6_isLaw_1 : decode cX6_isLaw 1 = .ok (.ifCond .le 19, 3) := by decide +kernel
theorem dX6_isLaw_4 : decode cX6_isLaw 4 = .ok (.aload_n 0, 1) := by decide +kernel
theorem dX6_isLaw_5 : decode cX6_isLaw 5 = .ok (.getfield 12, 3) := by decide +kernel
theorem dX6_isLaw_8 : decode cX6_isLaw 8 = .ok (.iload_n 1, 1) := by decide +kernel
theorem dX6_isLaw_9 : decode cX6_isLaw 9 = .ok (.iconst 0, 1) := by decide +kernel
theorem dX6_isLaw_10 : decode cX6_isLaw 10 = .ok (.invokevirtual 110, 3) := by decide +kernel
theorem dX6_isLaw_13 : decode cX6_isLaw 13 = .ok (.ifCond .eq 7, 3) := by decide +kernel
theorem dX6_isLaw_16 : decode cX6_isLaw 16 = .ok (.iconst 1, 1) := by decide +kernel
theorem dX6_isLaw_17 : decode cX6_isLaw 17 = .ok (.goto 4, 3) := by decide +kernel
theorem dX6_isLaw_20 : decode cX6_isLaw 20 = .ok (.iconst 0, 1) := by decide +kernel
theorem dX6_isLaw_21 : decode cX6_isLaw 21 = .ok (.ireturn, 1) := by decide +kernel
theorem dX6_countLaws_0 : decode cX6_countLaws 0 = .ok (.iconst 0, 1) := by decide +kernel
theorem dX6_countLaws_1 : decode cX6_countLaws 1 = .ok (.istore_n 1, 1) := by decide +kernel
theorem dX6_countLaws_2 : decode cX6_countLaws 2 = .ok (.iconst 0, 1) := by decide +kernel
theorem dX6_countLaws_3 : decode cX6_countLaws 3 = .ok (.istore_n 2, 1) := by decide +kernel
theorem dX6_countLaws_4 : decode cX6_countLaws 4 = .ok (.iload_n 2, 1) := by decide +kernel
theorem dX6_countLaws_5 : decode cX6_countLaws 5 = .ok (.aload_n 0, 1) := by decide +kernel
theorem dX6_countLaws_6 : decode cX6_countLaws 6 = .ok (.getfield 12, 3) := by decide +kernel
theorem dX6_countLaws_9 : decode cX6_countLaws 9 = .ok (.getfield 71, 3) := by decide +kernel
theorem dX6_countLaws_12 : decode cX6_countLaws 12 = .ok (.getfield 75, 3) := by decide +kernel
theorem dX6_countLaws_15 : decode cX6_countLaws 15 = .ok (.if_icmp .ge 20, 3) := by decide +kernel
theorem dX6_countLaws_18 : decode cX6_countLaws 18 = .ok (.aload_n 0, 1) := by decide +kernel
theorem dX6_countLaws_19 : decode cX6_countLaws 19 = .ok (.iload_n 2, 1) := by decide +kernel
theorem dX6_countLaws_20 : decode cX6_countLaws 20 = .ok (.invokevirtual 114, 3) := by decide +kernel
theorem dX6_countLaws_23 : decode cX6_countLaws 23 = .ok (.ifCond .eq 6, 3) := by decide +kernel
theorem dX6_countLaws_26 : decode cX6_countLaws 26 = .ok (.iinc 1 1, 3) := by decide +kernel
theorem dX6_countLaws_29 : decode cX6_countLaws 29 = .ok (.iinc 2 1, 3) := by decide +kernel
theorem dX6_countLaws_32 : decode cX6_countLaws 32 = .ok (.goto (-28), 3) := by decide +kernel
theorem dX6_countLaws_35 : decode cX6_countLaws 35 = .ok (.iload_n 1, 1) := by decide +kernel
theorem dX6_countLaws_36 : decode cX6_countLaws 36 = .ok (.ireturn, 1) := by decide +kernel
theorem dX6_findLaw_0 : decode cX6_findLaw 0 = .ok (.iconst 0, 1) := by decide +kernel
theorem dX6_findLaw_1 : decode cX6_findLaw 1 = .ok (.istore_n 2, 1) := by decide +kernel
theorem dX6_findLaw_2 : decode cX6_findLaw 2 = .ok (.iconst 0, 1) := by decide +kernel
theorem dX6_findLaw_3 : decode cX6_findLaw 3 = .ok (.istore_n 3, 1) := by decide +kernel
theorem dX6_findLaw_4 : decode cX6_findLaw 4 = .ok (.iload_n 3, 1) := by decide +kernel
theorem dX6_findLaw_5 : decode cX6_findLaw 5 = .ok (.aload_n 0, 1) := by decide +kernel
theorem dX6_findLaw_6 : decode cX6_findLaw 6 = .ok (.getfield 12, 3) := by decide +kernel
theorem dX6_findLaw_9 : decode cX6_findLaw 9 = .ok (.getfield 71, 3) := by decide +kernel
theorem dX6_findLaw_12 : decode cX6_findLaw 12 = .ok (.getfield 75, 3) := by decide +kernel
theorem dX6_findLaw_15 : decode cX6_findLaw 15 = .ok (.if_icmp .ge 27, 3) := by decide +kernel
theorem dX6_findLaw_18 : decode cX6_findLaw 18 = .ok (.aload_n 0, 1) := by decide +kernel
theorem dX6_findLaw_19 : decode cX6_findLaw 19 = .ok (.iload_n 3, 1) := by decide +kernel
theorem dX6_findLaw_20 : decode cX6_findLaw 20 = .ok (.invokevirtual 114, 3) := by decide +kernel
theorem dX6_findLaw_23 : decode cX6_findLaw 23 = .ok (.ifCond .eq 13, 3) := by decide +kernel
theorem dX6_findLaw_26 : decode cX6_findLaw 26 = .ok (.iload_n 2, 1) := by decide +kernel
theorem dX6_findLaw_27 : decode cX6_findLaw 27 = .ok (.iload_n 1, 1) := by decide +kernel
theorem dX6_findLaw_28 : decode cX6_findLaw 28 = .ok (.if_icmp .ne 5, 3) := by decide +kernel
theorem dX6_findLaw_31 : decode cX6_findLaw 31 = .ok (.iload_n 3, 1) := by decide +kernel
theorem dX6_findLaw_32 : decode cX6_findLaw 32 = .ok (.ireturn, 1) := by decide +kernel
theorem dX6_findLaw_33 : decode cX6_findLaw 33 = .ok (.iinc 2 1, 3) := by decide +kernel
theorem dX6_findLaw_36 : decode cX6_findLaw 36 = .ok (.iinc 3 1, 3) := by decide +kernel
theorem dX6_findLaw_39 : decode cX6_findLaw 39 = .ok (.goto (-35), 3) := by decide +kernel
theorem dX6_findLaw_42 : decode cX6_findLaw 42 = .ok (.iconst (-1), 1) := by decide +kernel
theorem dX6_findLaw_43 : decode cX6_findLaw 43 = .ok (.ireturn, 1) := by decide +kernel
theorem dX6_gatherFallen_0 : decode cX6_gatherFallen 0 = .ok (.iload_n 2, 1) := by decide +kernel
theorem dX6_gatherFallen_1 : decode cX6_gatherFallen 1 = .ok (.iconst 1, 1) := by decide +kernel
theorem dX6_gatherFallen_2 : decode cX6_gatherFallen 2 = .ok (.if_icmp .lt 8, 3) := by decide +kernel
theorem dX6_gatherFallen_5 : decode cX6_gatherFallen 5 = .ok (.iload_n 2, 1) := by decide +kernel
theorem dX6_gatherFallen_6 : decode cX6_gatherFallen 6 = .ok (.iconst 2, 1) := by decide +kernel
theorem dX6_gatherFallen_7 : decode cX6_gatherFallen 7 = .ok (.if_icmp .le 5, 3) := by decide +kernel
theorem dX6_gatherFallen_10 : decode cX6_gatherFallen 10 = .ok (.iconst (-1), 1) := by decide +kernel
theorem dX6_gatherFallen_11 : decode cX6_gatherFallen 11 = .ok (.ireturn, 1) := by decide +kernel
theorem dX6_gatherFallen_12 : decode cX6_gatherFallen 12 = .ok (.aload_n 1, 1) := by decide +kernel
theorem dX6_gatherFallen_13 : decode cX6_gatherFallen 13 = .ok (.getfield 52, 3) := by decide +kernel
theorem dX6_gatherFallen_16 : decode cX6_gatherFallen 16 = .ok (.ifCond .ne 6, 3) := by decide +kernel
theorem dX6_gatherFallen_19 : decode cX6_gatherFallen 19 = .ok (.bipush (-5), 2) := by decide +kernel
theorem dX6_gatherFallen_21 : decode cX6_gatherFallen 21 = .ok (.ireturn, 1) := by decide +kernel
theorem dX6_gatherFallen_22 : decode cX6_gatherFallen 22 = .ok (.aload_n 0, 1) := by decide +kernel
theorem dX6_gatherFallen_23 : decode cX6_gatherFallen 23 = .ok (.getfield 45, 3) := by decide +kernel
theorem dX6_gatherFallen_26 : decode cX6_gatherFallen 26 = .ok (.sipush 200, 3) := by decide +kernel
theorem dX6_gatherFallen_29 : decode cX6_gatherFallen 29 = .ok (.iload_n 2, 1) := by decide +kernel
theorem dX6_gatherFallen_30 : decode cX6_gatherFallen 30 = .ok (.iadd, 1) := by decide +kernel
theorem dX6_gatherFallen_31 : decode cX6_gatherFallen 31 = .ok (.if_icmp .eq 147, 3) := by decide +kernel
theorem dX6_gatherFallen_34 : decode cX6_gatherFallen 34 = .ok (.aload_n 0, 1) := by decide +kernel
theorem dX6_gatherFallen_35 : decode cX6_gatherFallen 35 = .ok (.sipush 200, 3) := by decide +kernel
theorem dX6_gatherFallen_38 : decode cX6_gatherFallen 38 = .ok (.iload_n 2, 1) := by decide +kernel
theorem dX6_gatherFallen_39 : decode cX6_gatherFallen 39 = .ok (.iadd, 1) := by decide +kernel
theorem dX6_gatherFallen_40 : decode cX6_gatherFallen 40 = .ok (.putfield 45, 3) := by decide +kernel
theorem dX6_gatherFallen_43 : decode cX6_gatherFallen 43 = .ok (.aload_n 0, 1) := by decide +kernel
theorem dX6_gatherFallen_44 : decode cX6_gatherFallen 44 = .ok (.invokevirtual 68, 3) := by decide +kernel
theorem dX6_gatherFallen_47 : decode cX6_gatherFallen 47 = .ok (.aload_n 0, 1) := by decide +kernel
theorem dX6_gatherFallen_48 : decode cX6_gatherFallen 48 = .ok (.aload_n 0, 1) := by decide +kernel
theorem dX6_gatherFallen_49 : decode cX6_gatherFallen 49 = .ok (.aload_n 1, 1) := by decide +kernel
theorem dX6_gatherFallen_50 : decode cX6_gatherFallen 50 = .ok (.iconst 0, 1) := by decide +kernel
theorem dX6_gatherFallen_51 : decode cX6_gatherFallen 51 = .ok (.invokevirtual 80, 3) := by decide +kernel
theorem dX6_gatherFallen_54 : decode cX6_gatherFallen 54 = .ok (.ifCond .eq 18, 3) := by decide +kernel
theorem dX6_gatherFallen_57 : decode cX6_gatherFallen 57 = .ok (.aload_n 0, 1) := by decide +kernel
theorem dX6_gatherFallen_58 : decode cX6_gatherFallen 58 = .ok (.getfield 12, 3) := by decide +kernel
theorem dX6_gatherFallen_61 : decode cX6_gatherFallen 61 = .ok (.aload_n 1, 1) := by decide +kernel
theorem dX6_gatherFallen_62 : decode cX6_gatherFallen 62 = .ok (.invokevirtual 61, 3) := by decide +kernel
theorem dX6_gatherFallen_65 : decode cX6_gatherFallen 65 = .ok (.ifCond .eq 7, 3) := by decide +kernel
theorem dX6_gatherFallen_68 : decode cX6_gatherFallen 68 = .ok (.iconst 1, 1) := by decide +kernel
theorem dX6_gatherFallen_69 : decode cX6_gatherFallen 69 = .ok (.goto 4, 3) := by decide +kernel
theorem dX6_gatherFallen_72 : decode cX6_gatherFallen 72 = .ok (.iconst 0, 1) := by decide +kernel
theorem dX6_gatherFallen_73 : decode cX6_gatherFallen 73 = .ok (.putfield 48, 3) := by decide +kernel
theorem dX6_gatherFallen_76 : decode cX6_gatherFallen 76 = .ok (.aload_n 0, 1) := by decide +kernel
theorem dX6_gatherFallen_77 : decode cX6_gatherFallen 77 = .ok (.aload_n 0, 1) := by decide +kernel
theorem dX6_gatherFallen_78 : decode cX6_gatherFallen 78 = .ok (.getfield 12, 3) := by decide +kernel
theorem dX6_gatherFallen_81 : decode cX6_gatherFallen 81 = .ok (.getfield 71, 3) := by decide +kernel
theorem dX6_gatherFallen_84 : decode cX6_gatherFallen 84 = .ok (.getfield 75, 3) := by decide +kernel
theorem dX6_gatherFallen_87 : decode cX6_gatherFallen 87 = .ok (.bipush 20, 2) := by decide +kernel
theorem dX6_gatherFallen_89 : decode cX6_gatherFallen 89 = .ok (.invokestatic 117, 3) := by decide +kernel
theorem dX6_gatherFallen_92 : decode cX6_gatherFallen 92 = .ok (.putfield 38, 3) := by decide +kernel
theorem dX6_gatherFallen_95 : decode cX6_gatherFallen 95 = .ok (.iconst 0, 1) := by decide +kernel
theorem dX6_gatherFallen_96 : decode cX6_gatherFallen 96 = .ok (.istore_n 3, 1) := by decide +kernel
theorem dX6_gatherFallen_97 : decode cX6_gatherFallen 97 = .ok (.iload_n 3, 1) := by decide +kernel
theorem dX6_gatherFallen_98 : decode cX6_gatherFallen 98 = .ok (.aload_n 0, 1) := by decide +kernel
theorem dX6_gatherFallen_99 : decode cX6_gatherFallen 99 = .ok (.getfield 38, 3) := by decide +kernel
theorem dX6_gatherFallen_102 : decode cX6_gatherFallen 102 = .ok (.if_icmp .ge 16, 3) := by decide +kernel
theorem dX6_gatherFallen_105 : decode cX6_gatherFallen 105 = .ok (.aload_n 0, 1) := by decide +kernel
theorem dX6_gatherFallen_106 : decode cX6_gatherFallen 106 = .ok (.getfield 28, 3) := by decide +kernel
theorem dX6_gatherFallen_109 : decode cX6_gatherFallen 109 = .ok (.iload_n 3, 1) := by decide +kernel
theorem dX6_gatherFallen_110 : decode cX6_gatherFallen 110 = .ok (.iload_n 3, 1) := by decide +kernel
theorem dX6_gatherFallen_111 : decode cX6_gatherFallen 111 = .ok (.iastore, 1) := by decide +kernel
theorem dX6_gatherFallen_112 : decode cX6_gatherFallen 112 = .ok (.iinc 3 1, 3) := by decide +kernel
theorem dX6_gatherFallen_115 : decode cX6_gatherFallen 115 = .ok (.goto (-18), 3) := by decide +kernel
theorem dX6_gatherFallen_118 : decode cX6_gatherFallen 118 = .ok (.iconst 0, 1) := by decide +kernel
theorem dX6_gatherFallen_119 : decode cX6_gatherFallen 119 = .ok (.istore_n 3, 1) := by decide +kernel
theorem dX6_gatherFallen_120 : decode cX6_gatherFallen 120 = .ok (.iload_n 3, 1) := by decide +kernel
theorem dX6_gatherFallen_121 : decode cX6_gatherFallen 121 = .ok (.aload_n 0, 1) := by decide +kernel
theorem dX6_gatherFallen_122 : decode cX6_gatherFallen 122 = .ok (.getfield 38, 3) := by decide +kernel
theorem dX6_gatherFallen_125 : decode cX6_gatherFallen 125 = .ok (.if_icmp .ge 53, 3) := by decide +kernel
theorem dX6_gatherFallen_128 : decode cX6_gatherFallen 128 = .ok (.iload_n 3, 1) := by decide +kernel
theorem dX6_gatherFallen_129 : decode cX6_gatherFallen 129 = .ok (.bipush 20, 2) := by decide +kernel
theorem dX6_gatherFallen_131 : decode cX6_gatherFallen 131 = .ok (.if_icmp .ge 47, 3) := by decide +kernel
theorem dX6_gatherFallen_134 : decode cX6_gatherFallen 134 = .ok (.aload_n 0, 1) := by decide +kernel
theorem dX6_gatherFallen_135 : decode cX6_gatherFallen 135 = .ok (.getfield 48, 3) := by decide +kernel
theorem dX6_gatherFallen_138 : decode cX6_gatherFallen 138 = .ok (.ifCond .eq 40, 3) := by decide +kernel
theorem dX6_gatherFallen_141 : decode cX6_gatherFallen 141 = .ok (.aload_n 0, 1) := by decide +kernel
theorem dX6_gatherFallen_142 : decode cX6_gatherFallen 142 = .ok (.aload_n 0, 1) := by decide +kernel
theorem dX6_gatherFallen_143 : decode cX6_gatherFallen 143 = .ok (.aload_n 1, 1) := by decide +kernel
theorem dX6_gatherFallen_144 : decode cX6_gatherFallen 144 = .ok (.aload_n 0, 1) := by decide +kernel
theorem dX6_gatherFallen_145 : decode cX6_gatherFallen 145 = .ok (.getfield 28, 3) := by decide +kernel
theorem dX6_gatherFallen_148 : decode cX6_gatherFallen 148 = .ok (.iload_n 3, 1) := by decide +kernel
theorem dX6_gatherFallen_149 : decode cX6_gatherFallen 149 = .ok (.iaload, 1) := by decide +kernel
theorem dX6_gatherFallen_150 : decode cX6_gatherFallen 150 = .ok (.iload_n 2, 1) := by decide +kernel
theorem dX6_gatherFallen_151 : decode cX6_gatherFallen 151 = .ok (.invokevirtual 123, 3) := by decide +kernel
theorem dX6_gatherFallen_154 : decode cX6_gatherFallen 154 = .ok (.ifCond .eq 14, 3) := by decide +kernel
theorem dX6_gatherFallen_157 : decode cX6_gatherFallen 157 = .ok (.aload_n 0, 1) := by decide +kernel
theorem dX6_gatherFallen_158 : decode cX6_gatherFallen 158 = .ok (.invokevirtual 127, 3) := by decide +kernel
theorem dX6_gatherFallen_161 : decode cX6_gatherFallen 161 = .ok (.ifCond .eq 7, 3) := by decide +kernel
theorem dX6_gatherFallen_164 : decode cX6_gatherFallen 164 = .ok (.iconst 1, 1) := by decide +kernel
theorem dX6_gatherFallen_165 : decode cX6_gatherFallen 165 = .ok (.goto 4, 3) := by decide +kernel
theorem dX6_gatherFallen_168 : decode cX6_gatherFallen 168 = .ok (.iconst 0, 1) := by decide +kernel
theorem dX6_gatherFallen_169 : decode cX6_gatherFallen 169 = .ok (.putfield 48, 3) := by decide +kernel
theorem dX6_gatherFallen_172 : decode cX6_gatherFallen 172 = .ok (.iinc 3 1, 3) := by decide +kernel
theorem dX6_gatherFallen_175 : decode cX6_gatherFallen 175 = .ok (.goto (-55), 3) := by decide +kernel
theorem dX6_gatherFallen_178 : decode cX6_gatherFallen 178 = .ok (.aload_n 0, 1) := by decide +kernel
theorem dX6_gatherFallen_179 : decode cX6_gatherFallen 179 = .ok (.getfield 48, 3) := by decide +kernel
theorem dX6_gatherFallen_182 : decode cX6_gatherFallen 182 = .ok (.ifCond .eq 7, 3) := by decide +kernel
theorem dX6_gatherFallen_185 : decode cX6_gatherFallen 185 = .ok (.iconst 0, 1) := by decide +kernel
theorem dX6_gatherFallen_186 : decode cX6_gatherFallen 186 = .ok (.goto 5, 3) := by decide +kernel
theorem dX6_gatherFallen_189 : decode cX6_gatherFallen 189 = .ok (.bipush (-7), 2) := by decide +kernel
theorem dX6_gatherFallen_191 : decode cX6_gatherFallen 191 = .ok (.ireturn, 1) := by decide +kernel
theorem dX6_lookAtParts_0 : decode cX6_lookAtParts 0 = .ok (.iload_n 3, 1) := by decide +kernel
theorem dX6_lookAtParts_1 : decode cX6_lookAtParts 1 = .ok (.iconst 1, 1) := by decide +kernel
theorem dX6_lookAtParts_2 : decode cX6_lookAtParts 2 = .ok (.if_icmp .ne 7, 3) := by decide +kernel
theorem dX6_lookAtParts_5 : decode cX6_lookAtParts 5 = .ok (.iconst 1, 1) := by decide +kernel
theorem dX6_lookAtParts_6 : decode cX6_lookAtParts 6 = .ok (.goto 7, 3) := by decide +kernel
theorem dX6_lookAtParts_9 : decode cX6_lookAtParts 9 = .ok (.aload_n 1, 1) := by decide +kernel
theorem dX6_lookAtParts_10 : decode cX6_lookAtParts 10 = .ok (.getfield 131, 3) := by decide +kernel
theorem dX6_lookAtParts_13 : decode cX6_lookAtParts 13 = .ok (.istore 4, 2) := by decide +kernel
theorem dX6_lookAtParts_15 : decode cX6_lookAtParts 15 = .ok (.aload_n 0, 1) := by decide +kernel
theorem dX6_lookAtParts_16 : decode cX6_lookAtParts 16 = .ok (.iconst 0, 1) := by decide +kernel
theorem dX6_lookAtParts_17 : decode cX6_lookAtParts 17 = .ok (.putfield 42, 3) := by decide +kernel
theorem dX6_lookAtParts_20 : decode cX6_lookAtParts 20 = .ok (.iconst 0, 1) := by decide +kernel
theorem dX6_lookAtParts_21 : decode cX6_lookAtParts 21 = .ok (.istore 5, 2) := by decide +kernel
theorem dX6_lookAtParts_23 : decode cX6_lookAtParts 23 = .ok (.iload 5, 2) := by decide +kernel
theorem dX6_lookAtParts_25 : decode cX6_lookAtParts 25 = .ok (.aload_n 1, 1) := by decide +kernel
theorem dX6_lookAtParts_26 : decode cX6_lookAtParts 26 = .ok (.getfield 93, 3) := by decide +kernel
theorem dX6_lookAtParts_29 : decode cX6_lookAtParts 29 = .ok (.if_icmp .ge 151, 3) := by decide +kernel
theorem dX6_lookAtParts_32 : decode cX6_lookAtParts 32 = .ok (.aload_n 0, 1) := by decide +kernel
theorem dX6_lookAtParts_33 : decode cX6_lookAtParts 33 = .ok (.getfield 12, 3) := by decide +kernel
theorem dX6_lookAtParts_36 : decode cX6_lookAtParts 36 = .ok (.iload_n 2, 1) := by decide +kernel
theorem dX6_lookAtParts_37 : decode cX6_lookAtParts 37 = .ok (.aload_n 0, 1) := by decide +kernel
theorem dX6_lookAtParts_38 : decode cX6_lookAtParts 38 = .ok (.getfield 21, 3) := by decide +kernel
theorem dX6_lookAtParts_41 : decode cX6_lookAtParts 41 = .ok (.invokevirtual 96, 3) := by decide +kernel
theorem dX6_lookAtParts_44 : decode cX6_lookAtParts 44 = .ok (.aload_n 0, 1) := by decide +kernel
theorem dX6_lookAtParts_45 : decode cX6_lookAtParts 45 = .ok (.getfield 21, 3) := by decide +kernel
theorem dX6_lookAtParts_48 : decode cX6_lookAtParts 48 = .ok (.aload_n 1, 1) := by decide +kernel
theorem dX6_lookAtParts_49 : decode cX6_lookAtParts 49 = .ok (.getfield 103, 3) := by decide +kernel
theorem dX6_lookAtParts_52 : decode cX6_lookAtParts 52 = .ok (.iload 5, 2) := by decide +kernel
theorem dX6_lookAtParts_54 : decode cX6_lookAtParts 54 = .ok (.iaload, 1) := by decide +kernel
theorem dX6_lookAtParts_55 : decode cX6_lookAtParts 55 = .ok (.invokevirtual 106, 3) := by decide +kernel
theorem dX6_lookAtParts_58 : decode cX6_lookAtParts 58 = .ok (.ifCond .ne 5, 3) := by decide +kernel
theorem dX6_lookAtParts_61 : decode cX6_lookAtParts 61 = .ok (.iconst 0, 1) := by decide +kernel
theorem dX6_lookAtParts_62 : decode cX6_lookAtParts 62 = .ok (.ireturn, 1) := by decide +kernel
theorem dX6_lookAtParts_63 : decode cX6_lookAtParts 63 = .ok (.iconst 0, 1) := by decide +kernel
theorem dX6_lookAtParts_64 : decode cX6_lookAtParts 64 = .ok (.istore 6, 2) := by decide +kernel
theorem dX6_lookAtParts_66 : decode cX6_lookAtParts 66 = .ok (.iload 6, 2) := by decide +kernel
theorem dX6_lookAtParts_68 : decode cX6_lookAtParts 68 = .ok (.iload 4, 2) := by decide +kernel
theorem dX6_lookAtParts_70 : decode cX6_lookAtParts 70 = .ok (.if_icmp .ge 104, 3) := by decide +kernel
theorem dX6_lookAtParts_73 : decode cX6_lookAtParts 73 = .ok (.iconst 0, 1) := by decide +kernel
theorem dX6_lookAtParts_74 : decode cX6_lookAtParts 74 = .ok (.istore 7, 2) := by decide +kernel
theorem dX6_lookAtParts_76 : decode cX6_lookAtParts 76 = .ok (.iload 7, 2) := by decide +kernel
theorem dX6_lookAtParts_78 : decode cX6_lookAtParts 78 = .ok (.aload_n 1, 1) := by decide +kernel
theorem dX6_lookAtParts_79 : decode cX6_lookAtParts 79 = .ok (.getfield 131, 3) := by decide +kernel
theorem dX6_lookAtParts_82 : decode cX6_lookAtParts 82 = .ok (.if_icmp .ge 86, 3) := by decide +kernel
theorem dX6_lookAtParts_85 : decode cX6_lookAtParts 85 = .ok (.aload_n 0, 1) := by decide +kernel
theorem dX6_lookAtParts_86 : decode cX6_lookAtParts 86 = .ok (.getfield 25, 3) := by decide +kernel
theorem dX6_lookAtParts_89 : decode cX6_lookAtParts 89 = .ok (.aload_n 0, 1) := by decide +kernel
theorem dX6_lookAtParts_90 : decode cX6_lookAtParts 90 = .ok (.getfield 21, 3) := by decide +kernel
theorem dX6_lookAtParts_93 : decode cX6_lookAtParts 93 = .ok (.invokevirtual 134, 3) := by decide +kernel
theorem dX6_lookAtParts_96 : decode cX6_lookAtParts 96 = .ok (.iload_n 3, 1) := by decide +kernel
theorem dX6_lookAtParts_97 : decode cX6_lookAtParts 97 = .ok (.iconst 1, 1) := by decide +kernel
theorem dX6_lookAtParts_98 : decode cX6_lookAtParts 98 = .ok (.if_icmp .le 14, 3) := by decide +kernel
theorem dX6_lookAtParts_101 : decode cX6_lookAtParts 101 = .ok (.aload_n 0, 1) := by decide +kernel
theorem dX6_lookAtParts_102 : decode cX6_lookAtParts 102 = .ok (.getfield 25, 3) := by decide +kernel
theorem dX6_lookAtParts_105 : decode cX6_lookAtParts 105 = .ok (.aload_n 1, 1) := by decide +kernel
theorem dX6_lookAtParts_106 : decode cX6_lookAtParts 106 = .ok (.iload 6, 2) := by decide +kernel
theorem dX6_lookAtParts_108 : decode cX6_lookAtParts 108 = .ok (.invokevirtual 138, 3) := by decide +kernel
theorem dX6_lookAtParts_111 : decode cX6_lookAtParts 111 = .ok (.pop, 1) := by decide +kernel
theorem dX6_lookAtParts_112 : decode cX6_lookAtParts 112 = .ok (.aload_n 0, 1) := by decide +kernel
theorem dX6_lookAtParts_113 : decode cX6_lookAtParts 113 = .ok (.getfield 25, 3) := by decide +kernel
theorem dX6_lookAtParts_116 : decode cX6_lookAtParts 116 = .ok (.aload_n 1, 1) := by decide +kernel
theorem dX6_lookAtParts_117 : decode cX6_lookAtParts 117 = .ok (.iload 7, 2) := by decide +kernel
theorem dX6_lookAtParts_119 : decode cX6_lookAtParts 119 = .ok (.invokevirtual 138, 3) := by decide +kernel
theorem dX6_lookAtParts_122 : decode cX6_lookAtParts 122 = .ok (.pop, 1) := by decide +kernel
theorem dX6_lookAtParts_123 : decode cX6_lookAtParts 123 = .ok (.aload_n 0, 1) := by decide +kernel
theorem dX6_lookAtParts_124 : decode cX6_lookAtParts 124 = .ok (.getfield 12, 3) := by decide +kernel
theorem dX6_lookAtParts_127 : decode cX6_lookAtParts 127 = .ok (.aload_n 1, 1) := by decide +kernel
theorem dX6_lookAtParts_128 : decode cX6_lookAtParts 128 = .ok (.aload_n 0, 1) := by decide +kernel
theorem dX6_lookAtParts_129 : decode cX6_lookAtParts 129 = .ok (.getfield 25, 3) := by decide +kernel
theorem dX6_lookAtParts_132 : decode cX6_lookAtParts 132 = .ok (.invokevirtual 142, 3) := by decide +kernel
theorem dX6_lookAtParts_135 : decode cX6_lookAtParts 135 = .ok (.istore 8, 2) := by decide +kernel
theorem dX6_lookAtParts_137 : decode cX6_lookAtParts 137 = .ok (.iload 8, 2) := by decide +kernel
theorem dX6_lookAtParts_139 : decode cX6_lookAtParts 139 = .ok (.ifCond .ge 5, 3) := by decide +kernel
theorem dX6_lookAtParts_142 : decode cX6_lookAtParts 142 = .ok (.iconst 0, 1) := by decide +kernel
theorem dX6_lookAtParts_143 : decode cX6_lookAtParts 143 = .ok (.ireturn, 1) := by decide +kernel
theorem dX6_lookAtParts_144 : decode cX6_lookAtParts 144 = .ok (.aload_n 0, 1) := by decide +kernel
theorem dX6_lookAtParts_145 : decode cX6_lookAtParts 145 = .ok (.getfield 32, 3) := by decide +kernel
theorem dX6_lookAtParts_148 : decode cX6_lookAtParts 148 = .ok (.aload_n 0, 1) := by decide +kernel
theorem dX6_lookAtParts_149 : decode cX6_lookAtParts 149 = .ok (.dup, 1) := by decide +kernel
theorem dX6_lookAtParts_150 : decode cX6_lookAtParts 150 = .ok (.getfield 42, 3) := by decide +kernel
theorem dX6_lookAtParts_153 : decode cX6_lookAtParts 153 = .ok (.dup_x1, 1) := by decide +kernel
theorem dX6_lookAtParts_154 : decode cX6_lookAtParts 154 = .ok (.iconst 1, 1) := by decide +kernel
theorem dX6_lookAtParts_155 : decode cX6_lookAtParts 155 = .ok (.iadd, 1) := by decide +kernel
theorem dX6_lookAtParts_156 : decode cX6_lookAtParts 156 = .ok (.putfield 42, 3) := by decide +kernel
theorem dX6_lookAtParts_159 : decode cX6_lookAtParts 159 = .ok (.iload 8, 2) := by decide +kernel
theorem dX6_lookAtParts_161 : decode cX6_lookAtParts 161 = .ok (.iastore, 1) := by decide +kernel
theorem dX6_lookAtParts_162 : decode cX6_lookAtParts 162 = .ok (.iinc 7 1, 3) := by decide +kernel
theorem dX6_lookAtParts_165 : decode cX6_lookAtParts 165 = .ok (.goto (-89), 3) := by decide +kernel
theorem dX6_lookAtParts_168 : decode cX6_lookAtParts 168 = .ok (.iinc 6 1, 3) := by decide +kernel
theorem dX6_lookAtParts_171 : decode cX6_lookAtParts 171 = .ok (.goto (-105), 3) := by decide +kernel
theorem dX6_lookAtParts_174 : decode cX6_lookAtParts 174 = .ok (.iinc 5 1, 3) := by decide +kernel
theorem dX6_lookAtParts_177 : decode cX6_lookAtParts 177 = .ok (.goto (-154), 3) := by decide +kernel
theorem dX6_lookAtParts_180 : decode cX6_lookAtParts 180 = .ok (.iconst 1, 1) := by decide +kernel
theorem dX6_lookAtParts_181 : decode cX6_lookAtParts 181 = .ok (.ireturn, 1) := by decide +kernel
theorem dX6_addUnlike_0 : decode cX6_addUnlike 0 = .ok (.aload_n 0, 1) := by decide +kernel
theorem dX6_addUnlike_1 : decode cX6_addUnlike 1 = .ok (.getfield 12, 3) := by decide +kernel
theorem dX6_addUnlike_4 : decode cX6_addUnlike 4 = .ok (.invokevirtual 65, 3) := by decide +kernel
theorem dX6_addUnlike_7 : decode cX6_addUnlike 7 = .ok (.aload_n 0, 1) := by decide +kernel
theorem dX6_addUnlike_8 : decode cX6_addUnlike 8 = .ok (.getfield 35, 3) := by decide +kernel
theorem dX6_addUnlike_11 : decode cX6_addUnlike 11 = .ok (.iconst 0, 1) := by decide +kernel
theorem dX6_addUnlike_12 : decode cX6_addUnlike 12 = .ok (.invokestatic 146, 3) := by decide +kernel
theorem dX6_addUnlike_15 : decode cX6_addUnlike 15 = .ok (.iconst 0, 1) := by decide +kernel
theorem dX6_addUnlike_16 : decode cX6_addUnlike 16 = .ok (.istore_n 1, 1) := by decide +kernel
theorem dX6_addUnlike_17 : decode cX6_addUnlike 17 = .ok (.iload_n 1, 1) := by decide +kernel
theorem dX6_addUnlike_18 : decode cX6_addUnlike 18 = .ok (.aload_n 0, 1) := by decide +kernel
theorem dX6_addUnlike_19 : decode cX6_addUnlike 19 = .ok (.getfield 38, 3) := by decide +kernel
theorem dX6_addUnlike_22 : decode cX6_addUnlike 22 = .ok (.if_icmp .ge 29, 3) := by decide +kernel
theorem dX6_addUnlike_25 : decode cX6_addUnlike 25 = .ok (.aload_n 0, 1) := by decide +kernel
theorem dX6_addUnlike_26 : decode cX6_addUnlike 26 = .ok (.getfield 35, 3) := by decide +kernel
theorem dX6_addUnlike_29 : decode cX6_addUnlike 29 = .ok (.aload_n 0, 1) := by decide +kernel
theorem dX6_addUnlike_30 : decode cX6_addUnlike 30 = .ok (.getfield 12, 3) := by decide +kernel
theorem dX6_addUnlike_33 : decode cX6_addUnlike 33 = .ok (.getfield 152, 3) := by decide +kernel
theorem dX6_addUnlike_36 : decode cX6_addUnlike 36 = .ok (.aload_n 0, 1) := by decide +kernel
theorem dX6_addUnlike_37 : decode cX6_addUnlike 37 = .ok (.getfield 28, 3) := by decide +kernel
theorem dX6_addUnlike_40 : decode cX6_addUnlike 40 = .ok (.iload_n 1, 1) := by decide +kernel
theorem dX6_addUnlike_41 : decode cX6_addUnlike 41 = .ok (.iaload, 1) := by decide +kernel
theorem dX6_addUnlike_42 : decode cX6_addUnlike 42 = .ok (.iaload, 1) := by decide +kernel
theorem dX6_addUnlike_43 : decode cX6_addUnlike 43 = .ok (.iconst 1, 1) := by decide +kernel
theorem dX6_addUnlike_44 : decode cX6_addUnlike 44 = .ok (.iastore, 1) := by decide +kernel
theorem dX6_addUnlike_45 : decode cX6_addUnlike 45 = .ok (.iinc 1 1, 3) := by decide +kernel
theorem dX6_addUnlike_48 : decode cX6_addUnlike 48 = .ok (.goto (-31), 3) := by decide +kernel
theorem dX6_addUnlike_51 : decode cX6_addUnlike 51 = .ok (.iconst 0, 1) := by decide +kernel
theorem dX6_addUnlike_52 : decode cX6_addUnlike 52 = .ok (.istore_n 1, 1) := by decide +kernel
theorem dX6_addUnlike_53 : decode cX6_addUnlike 53 = .ok (.iload_n 1, 1) := by decide +kernel
theorem dX6_addUnlike_54 : decode cX6_addUnlike 54 = .ok (.aload_n 0, 1) := by decide +kernel
theorem dX6_addUnlike_55 : decode cX6_addUnlike 55 = .ok (.getfield 42, 3) := by decide +kernel
theorem dX6_addUnlike_58 : decode cX6_addUnlike 58 = .ok (.if_icmp .ge 73, 3) := by decide +kernel
theorem dX6_addUnlike_61 : decode cX6_addUnlike 61 = .ok (.aload_n 0, 1) := by decide +kernel
theorem dX6_addUnlike_62 : decode cX6_addUnlike 62 = .ok (.getfield 12, 3) := by decide +kernel
theorem dX6_addUnlike_65 : decode cX6_addUnlike 65 = .ok (.getfield 152, 3) := by decide +kernel
theorem dX6_addUnlike_68 : decode cX6_addUnlike 68 = .ok (.aload_n 0, 1) := by decide +kernel
theorem dX6_addUnlike_69 : decode cX6_addUnlike 69 = .ok (.getfield 32, 3) := by decide +kernel
theorem dX6_addUnlike_72 : decode cX6_addUnlike 72 = .ok (.iload_n 1, 1) := by decide +kernel
theorem dX6_addUnlike_73 : decode cX6_addUnlike 73 = .ok (.iaload, 1) := by decide +kernel
theorem dX6_addUnlike_74 : decode cX6_addUnlike 74 = .ok (.iaload, 1) := by decide +kernel
theorem dX6_addUnlike_75 : decode cX6_addUnlike 75 = .ok (.istore_n 2, 1) := by decide +kernel
theorem dX6_addUnlike_76 : decode cX6_addUnlike 76 = .ok (.aload_n 0, 1) := by decide +kernel
theorem dX6_addUnlike_77 : decode cX6_addUnlike 77 = .ok (.getfield 35, 3) := by decide +kernel
theorem dX6_addUnlike_80 : decode cX6_addUnlike 80 = .ok (.iload_n 2, 1) := by decide +kernel
theorem dX6_addUnlike_81 : decode cX6_addUnlike 81 = .ok (.iaload, 1) := by decide +kernel
theorem dX6_addUnlike_82 : decode cX6_addUnlike 82 = .ok (.ifCond .ne 43, 3) := by decide +kernel
theorem dX6_addUnlike_85 : decode cX6_addUnlike 85 = .ok (.aload_n 0, 1) := by decide +kernel
theorem dX6_addUnlike_86 : decode cX6_addUnlike 86 = .ok (.getfield 38, 3) := by decide +kernel
theorem dX6_addUnlike_89 : decode cX6_addUnlike 89 = .ok (.bipush 20, 2) := by decide +kernel
theorem dX6_addUnlike_91 : decode cX6_addUnlike 91 = .ok (.if_icmp .lt 5, 3) := by decide +kernel
theorem dX6_addUnlike_94 : decode cX6_addUnlike 94 = .ok (.iconst 0, 1) := by decide +kernel
theorem dX6_addUnlike_95 : decode cX6_addUnlike 95 = .ok (.ireturn, 1) := by decide +kernel
theorem dX6_addUnlike_96 : decode cX6_addUnlike 96 = .ok (.aload_n 0, 1) := by decide +kernel
theorem dX6_addUnlike_97 : decode cX6_addUnlike 97 = .ok (.getfield 35, 3) := by decide +kernel
theorem dX6_addUnlike_100 : decode cX6_addUnlike 100 = .ok (.iload_n 2, 1) := by decide +kernel
theorem dX6_addUnlike_101 : decode cX6_addUnlike 101 = .ok (.iconst 1, 1) := by decide +kernel
theorem dX6_addUnlike_102 : decode cX6_addUnlike 102 = .ok (.iastore, 1) := by decide +kernel
theorem dX6_addUnlike_103 : decode cX6_addUnlike 103 = .ok (.aload_n 0, 1) := by decide +kernel
theorem dX6_addUnlike_104 : decode cX6_addUnlike 104 = .ok (.getfield 28, 3) := by decide +kernel
theorem dX6_addUnlike_107 : decode cX6_addUnlike 107 = .ok (.aload_n 0, 1) := by decide +kernel
theorem dX6_addUnlike_108 : decode cX6_addUnlike 108 = .ok (.dup, 1) := by decide +kernel
theorem dX6_addUnlike_109 : decode cX6_addUnlike 109 = .ok (.getfield 38, 3) := by decide +kernel
theorem dX6_addUnlike_112 : decode cX6_addUnlike 112 = .ok (.dup_x1, 1) := by decide +kernel
theorem dX6_addUnlike_113 : decode cX6_addUnlike 113 = .ok (.iconst 1, 1) := by decide +kernel
theorem dX6_addUnlike_114 : decode cX6_addUnlike 114 = .ok (.iadd, 1) := by decide +kernel
theorem dX6_addUnlike_115 : decode cX6_addUnlike 115 = .ok (.putfield 38, 3) := by decide +kernel
theorem dX6_addUnlike_118 : decode cX6_addUnlike 118 = .ok (.aload_n 0, 1) := by decide +kernel
theorem dX6_addUnlike_119 : decode cX6_addUnlike 119 = .ok (.getfield 32, 3) := by decide +kernel
theorem dX6_addUnlike_122 : decode cX6_addUnlike 122 = .ok (.iload_n 1, 1) := by decide +kernel
theorem dX6_addUnlike_123 : decode cX6_addUnlike 123 = .ok (.iaload, 1) := by decide +kernel
theorem dX6_addUnlike_124 : decode cX6_addUnlike 124 = .ok (.iastore, 1) := by decide +kernel
theorem dX6_addUnlike_125 : decode cX6_addUnlike 125 = .ok (.iinc 1 1, 3) := by decide +kernel
theorem dX6_addUnlike_128 : decode cX6_addUnlike 128 = .ok (.goto (-75), 3) := by decide +kernel
theorem dX6_addUnlike_131 : decode cX6_addUnlike 131 = .ok (.iconst 1, 1) := by decide +kernel
theorem dX6_addUnlike_132 : decode cX6_addUnlike 132 = .ok (.ireturn, 1) := by decide +kernel
theorem dX7_empty_0 : decode cX7_empty 0 = .ok (.aload_n 0, 1) := by decide +kernel
theorem dX7_empty_1 : decode cX7_empty 1 = .ok (.lconst 0, 1) := by decide +kernel
theorem dX7_empty_2 : decode cX7_empty 2 = .ok (.putfield 9, 3) := by decide +kernel
theorem dX7_empty_5 : decode cX7_empty 5 = .ok (.aload_n 0, 1) := by decide +kernel
theorem dX7_empty_6 : decode cX7_empty 6 = .ok (.iconst 0, 1) := by decide +kernel
theorem dX7_empty_7 : decode cX7_empty 7 = .ok (.putfield 15, 3) := by decide +kernel
theorem dX7_empty_10 : decode cX7_empty 10 = .ok (.return_, 1) := by decide +kernel
theorem dX7_copy_0 : decode cX7_copy 0 = .ok (.aload_n 0, 1) := by decide +kernel
theorem dX7_copy_1 : decode cX7_copy 1 = .ok (.aload_n 1, 1) := by decide +kernel
theorem dX7_copy_2 : decode cX7_copy 2 = .ok (.getfield 9, 3) := by decide +kernel
theorem dX7_copy_5 : decode cX7_copy 5 = .ok (.putfield 9, 3) := by decide +kernel
theorem dX7_copy_8 : decode cX7_copy 8 = .ok (.aload_n 0, 1) := by decide +kernel
theorem dX7_copy_9 : decode cX7_copy 9 = .ok (.aload_n 1, 1) := by decide +kernel
theorem dX7_copy_10 : decode cX7_copy 10 = .ok (.getfield 15, 3) := by decide +kernel
theorem dX7_copy_13 : decode cX7_copy 13 = .ok (.putfield 15, 3) := by decide +kernel
theorem dX7_copy_16 : decode cX7_copy 16 = .ok (.return_, 1) := by decide +kernel
theorem dX7_mark_0 : decode cX7_mark 0 = .ok (.aload_n 0, 1) := by decide +kernel
theorem dX7_mark_1 : decode cX7_mark 1 = .ok (.getfield 9, 3) := by decide +kernel
theorem dX7_mark_4 : decode cX7_mark 4 = .ok (.iconst 4, 1) := by decide +kernel
theorem dX7_mark_5 : decode cX7_mark 5 = .ok (.iload_n 1, 1) := by decide +kernel
theorem dX7_mark_6 : decode cX7_mark 6 = .ok (.imul, 1) := by decide +kernel
theorem dX7_mark_7 : decode cX7_mark 7 = .ok (.lushr, 1) := by decide +kernel
theorem dX7_mark_8 : decode cX7_mark 8 = .ok (.l2i, 1) := by decide +kernel
theorem dX7_mark_9 : decode cX7_mark 9 = .ok (.bipush 15, 2) := by decide +kernel
theorem dX7_mark_11 : decode cX7_mark 11 = .ok (.iand, 1) := by decide +kernel
theorem dX7_mark_12 : decode cX7_mark 12 = .ok (.ireturn, 1) := by decide +kernel
theorem dX7_push_0 : decode cX7_push 0 = .ok (.aload_n 0, 1) := by decide +kernel
theorem dX7_push_1 : decode cX7_push 1 = .ok (.getfield 15, 3) := by decide +kernel
theorem dX7_push_4 : decode cX7_push 4 = .ok (.ifCond .le 57, 3) := by decide +kernel
theorem dX7_push_7 : decode cX7_push 7 = .ok (.aload_n 0, 1) := by decide +kernel
theorem dX7_push_8 : decode cX7_push 8 = .ok (.getfield 9, 3) := by decide +kernel
theorem dX7_push_11 : decode cX7_push 11 = .ok (.iconst 4, 1) := by decide +kernel
theorem dX7_push_12 : decode cX7_push 12 = .ok (.aload_n 0, 1) := by decide +kernel
theorem dX7_push_13 : decode cX7_push 13 = .ok (.getfield 15, 3) := by decide +kernel
theorem dX7_push_16 : decode cX7_push 16 = .ok (.imul, 1) := by decide +kernel
theorem dX7_push_17 : decode cX7_push 17 = .ok (.iconst 4, 1) := by decide +kernel
theorem dX7_push_18 : decode cX7_push 18 = .ok (.isub, 1) := by decide +kernel
theorem dX7_push_19 : decode cX7_push 19 = .ok (.lushr, 1) := by decide +kernel
theorem dX7_push_20 : decode cX7_push 20 = .ok (.l2i, 1) := by decide +kernel
theorem dX7_push_21 : decode cX7_push 21 = .ok (.bipush 15, 2) := by decide +kernel
theorem dX7_push_23 : decode cX7_push 23 = .ok (.iand, 1) := by decide +kernel
theorem dX7_push_24 : decode cX7_push 24 = .ok (.iload_n 1, 1) := by decide +kernel
theorem dX7_push_25 : decode cX7_push 25 = .ok (.iconst 1, 1) := by decide +kernel
theorem dX7_push_26 : decode cX7_push 26 = .ok (.ixor, 1) := by decide +kernel
theorem dX7_push_27 : decode cX7_push 27 = .ok (.if_icmp .ne 34, 3) := by decide +kernel
theorem dX7_push_30 : decode cX7_push 30 = .ok (.aload_n 0, 1) := by decide +kernel
theorem dX7_push_31 : decode cX7_push 31 = .ok (.dup, 1) := by decide +kernel
theorem dX7_push_32 : decode cX7_push 32 = .ok (.getfield 15, 3) := by decide +kernel
theorem dX7_push_35 : decode cX7_push 35 = .ok (.iconst 1, 1) := by decide +kernel
theorem dX7_push_36 : decode cX7_push 36 = .ok (.isub, 1) := by decide +kernel
theorem dX7_push_37 : decode cX7_push 37 = .ok (.putfield 15, 3) := by decide +kernel
theorem dX7_push_40 : decode cX7_push 40 = .ok (.aload_n 0, 1) := by decide +kernel
theorem dX7_push_41 : decode cX7_push 41 = .ok (.dup, 1) := by decide +kernel
theorem dX7_push_42 : decode cX7_push 42 = .ok (.getfield 9, 3) := by decide +kernel
theorem dX7_push_45 : decode cX7_push 45 = .ok (.lconst 1, 1) := by decide +kernel
theorem dX7_push_46 : decode cX7_push 46 = .ok (.iconst 4, 1) := by decide +kernel
theorem dX7_push_47 : decode cX7_push 47 = .ok (.aload_n 0, 1) := by decide +kernel
theorem dX7_push_48 : decode cX7_push 48 = .ok (.getfield 15, 3) := by decide +kernel
theorem dX7_push_51 : decode cX7_push 51 = .ok (.imul, 1) := by decide +kernel
theorem dX7_push_52 : decode cX7_push 52 = .ok (.lshl, 1) := by decide +kernel
theorem dX7_push_53 : decode cX7_push 53 = .ok (.lconst 1, 1) := by decide +kernel
theorem dX7_push_54 : decode cX7_push 54 = .ok (.lsub, 1) := by decide +kernel
theorem dX7_push_55 : decode cX7_push 55 = .ok (.land, 1) := by decide +kernel
theorem dX7_push_56 : decode cX7_push 56 = .ok (.putfield 9, 3) := by decide +kernel
theorem dX7_push_59 : decode cX7_push 59 = .ok (.iconst 1, 1) := by decide +kernel
theorem dX7_push_60 : decode cX7_push 60 = .ok (.ireturn, 1) := by decide +kernel
theorem dX7_push_61 : decode cX7_push 61 = .ok (.aload_n 0, 1) := by decide +kernel
theorem dX7_push_62 : decode cX7_push 62 = .ok (.getfield 15, 3) := by decide +kernel
theorem dX7_push_65 : decode cX7_push 65 = .ok (.bipush 16, 2) := by decide +kernel
theorem dX7_push_67 : decode cX7_push 67 = .ok (.if_icmp .lt 5, 3) := by decide +kernel
theorem dX7_push_70 : decode cX7_push 70 = .ok (.iconst 0, 1) := by decide +kernel
theorem dX7_push_71 : decode cX7_push 71 = .ok (.ireturn, 1) := by decide +kernel
theorem dX7_push_72 : decode cX7_push 72 = .ok (.aload_n 0, 1) := by decide +kernel
theorem dX7_push_73 : decode cX7_push 73 = .ok (.dup, 1) := by decide +kernel
theorem dX7_push_74 : decode cX7_push 74 = .ok (.getfield 9, 3) := by decide +kernel
theorem dX7_push_77 : decode cX7_push 77 = .ok (.iload_n 1, 1) := by decide +kernel
theorem dX7_push_78 : decode cX7_push 78 = .ok (.i2l, 1) := by decide +kernel
theorem dX7_push_79 : decode cX7_push 79 = .ok (.iconst 4, 1) := by decide +kernel
theorem dX7_push_80 : decode cX7_push 80 = .ok (.aload_n 0, 1) := by decide +kernel
theorem dX7_push_81 : decode cX7_push 81 = .ok (.getfield 15, 3) := by decide +kernel
theorem dX7_push_84 : decode cX7_push 84 = .ok (.imul, 1) := by decide +kernel
theorem dX7_push_85 : decode cX7_push 85 = .ok (.lshl, 1) := by decide +kernel
theorem dX7_push_86 : decode cX7_push 86 = .ok (.lor, 1) := by decide +kernel
theorem dX7_push_87 : decode cX7_push 87 = .ok (.putfield 9, 3) := by decide +kernel
theorem dX7_push_90 : decode cX7_push 90 = .ok (.aload_n 0, 1) := by decide +kernel
theorem dX7_push_91 : decode cX7_push 91 = .ok (.dup, 1) := by decide +kernel
theorem dX7_push_92 : decode cX7_push 92 = .ok (.getfield 15, 3) := by decide +kernel
theorem dX7_push_95 : decode cX7_push 95 = .ok (.iconst 1, 1) := by decide +kernel
theorem dX7_push_96 : decode cX7_push 96 = .ok (.iadd, 1) := by decide +kernel
theorem dX7_push_97 : decode cX7_push 97 = .ok (.putfield 15, 3) := by decide +kernel
theorem dX7_push_100 : decode cX7_push 100 = .ok (.iconst 1, 1) := by decide +kernel
theorem dX7_push_101 : decode cX7_push 101 = .ok (.ireturn, 1) := by decide +kernel
theorem dX7_descend_0 : decode cX7_descend 0 = .ok (.aload_n 0, 1) := by decide +kernel
theorem dX7_descend_1 : decode cX7_descend 1 = .ok (.getfield 9, 3) := by decide +kernel
theorem dX7_descend_4 : decode cX7_descend 4 = .ok (.lstore_n 3, 1) := by decide +kernel
theorem dX7_descend_5 : decode cX7_descend 5 = .ok (.aload_n 0, 1) := by decide +kernel
theorem dX7_descend_6 : decode cX7_descend 6 = .ok (.getfield 15, 3) := by decide +kernel
theorem dX7_descend_9 : decode cX7_descend 9 = .ok (.istore 5, 2) := by decide +kernel
theorem dX7_descend_11 : decode cX7_descend 11 = .ok (.iload_n 2, 1) := by decide +kernel
theorem dX7_descend_12 : decode cX7_descend 12 = .ok (.istore 6, 2) := by decide +kernel
theorem dX7_descend_14 : decode cX7_descend 14 = .ok (.aload_n 0, 1) := by decide +kernel
theorem dX7_descend_15 : decode cX7_descend 15 = .ok (.invokevirtual 19, 3) := by decide +kernel
theorem dX7_descend_18 : decode cX7_descend 18 = .ok (.iconst 0, 1) := by decide +kernel
theorem dX7_descend_19 : decode cX7_descend 19 = .ok (.istore 7, 2) := by decide +kernel
theorem dX7_descend_21 : decode cX7_descend 21 = .ok (.iload 7, 2) := by decide +kernel
theorem dX7_descend_23 : decode cX7_descend 23 = .ok (.iload 5, 2) := by decide +kernel
theorem dX7_descend_25 : decode cX7_descend 25 = .ok (.if_icmp .ge 58, 3) := by decide +kernel
theorem dX7_descend_28 : decode cX7_descend 28 = .ok (.lload_n 3, 1) := by decide +kernel
theorem dX7_descend_29 : decode cX7_descend 29 = .ok (.iconst 4, 1) := by decide +kernel
theorem dX7_descend_30 : decode cX7_descend 30 = .ok (.iload 7, 2) := by decide +kernel
theorem dX7_descend_32 : decode cX7_descend 32 = .ok (.imul, 1) := by decide +kernel
theorem dX7_descend_33 : decode cX7_descend 33 = .ok (.lushr, 1) := by decide +kernel
theorem dX7_descend_34 : decode cX7_descend 34 = .ok (.l2i, 1) := by decide +kernel
theorem dX7_descend_35 : decode cX7_descend 35 = .ok (.bipush 15, 2) := by decide +kernel
theorem dX7_descend_37 : decode cX7_descend 37 = .ok (.iand, 1) := by decide +kernel
theorem dX7_descend_38 : decode cX7_descend 38 = .ok (.iconst 4, 1) := by decide +kernel
theorem dX7_descend_39 : decode cX7_descend 39 = .ok (.imul, 1) := by decide +kernel
theorem dX7_descend_40 : decode cX7_descend 40 = .ok (.iload 6, 2) := by decide +kernel
theorem dX7_descend_42 : decode cX7_descend 42 = .ok (.iadd, 1) := by decide +kernel
theorem dX7_descend_43 : decode cX7_descend 43 = .ok (.istore 8, 2) := by decide +kernel
theorem dX7_descend_45 : decode cX7_descend 45 = .ok (.aload_n 1, 1) := by decide +kernel
theorem dX7_descend_46 : decode cX7_descend 46 = .ok (.getfield 22, 3) := by decide +kernel
theorem dX7_descend_49 : decode cX7_descend 49 = .ok (.iload 8, 2) := by decide +kernel
theorem dX7_descend_51 : decode cX7_descend 51 = .ok (.iaload, 1) := by decide +kernel
theorem dX7_descend_52 : decode cX7_descend 52 = .ok (.istore 6, 2) := by decide +kernel
theorem dX7_descend_54 : decode cX7_descend 54 = .ok (.aload_n 1, 1) := by decide +kernel
theorem dX7_descend_55 : decode cX7_descend 55 = .ok (.getfield 28, 3) := by decide +kernel
theorem dX7_descend_58 : decode cX7_descend 58 = .ok (.iload 8, 2) := by decide +kernel
theorem dX7_descend_60 : decode cX7_descend 60 = .ok (.iaload, 1) := by decide +kernel
theorem dX7_descend_61 : decode cX7_descend 61 = .ok (.iconst (-1), 1) := by decide +kernel
theorem dX7_descend_62 : decode cX7_descend 62 = .ok (.if_icmp .eq 15, 3) := by decide +kernel
theorem dX7_descend_65 : decode cX7_descend 65 = .ok (.aload_n 0, 1) := by decide +kernel
theorem dX7_descend_66 : decode cX7_descend 66 = .ok (.aload_n 1, 1) := by decide +kernel
theorem dX7_descend_67 : decode cX7_descend 67 = .ok (.getfield 28, 3) := by decide +kernel
theorem dX7_descend_70 : decode cX7_descend 70 = .ok (.iload 8, 2) := by decide +kernel
theorem dX7_descend_72 : decode cX7_descend 72 = .ok (.iaload, 1) := by decide +kernel
theorem dX7_descend_73 : decode cX7_descend 73 = .ok (.invokevirtual 31, 3) := by decide +kernel
theorem dX7_descend_76 : decode cX7_descend 76 = .ok (.pop, 1) := by decide +kernel
theorem dX7_descend_77 : decode cX7_descend 77 = .ok (.iinc 7 1, 3) := by decide +kernel
theorem dX7_descend_80 : decode cX7_descend 80 = .ok (.goto (-59), 3) := by decide +kernel
theorem dX7_descend_83 : decode cX7_descend 83 = .ok (.iload 6, 2) := by decide +kernel
theorem dX7_descend_85 : decode cX7_descend 85 = .ok (.ireturn, 1) := by decide +kernel
end
section
theorem dX8_sheet_0 : decode cX8_sheet 0 = .ok (.iload_n 1, 1) := by decide +kernel
theorem dX8_sheet_1 : decode cX8_sheet 1 = .ok (.invokestatic 66, 3) := by decide +kernel
theorem dX8_sheet_4 : decode cX8_sheet 4 = .ok (.ifCond .eq 12, 3) := by decide +kernel
theorem dX8_sheet_7 : decode cX8_sheet 7 = .ok (.iload_n 2, 1) := by decide +kernel
theorem dX8_sheet_8 : decode cX8_sheet 8 = .ok (.ifCond .lt 8, 3) := by decide +kernel
theorem dX8_sheet_11 : decode cX8_sheet 11 = .ok (.iload_n 2, 1) := by decide +kernel
theorem dX8_sheet_12 : decode cX8_sheet 12 = .ok (.iconst 2, 1) := by decide +kernel
theorem dX8_sheet_13 : decode cX8_sheet 13 = .ok (.if_icmp .le 5, 3) := by decide +kernel
theorem dX8_sheet_16 : decode cX8_sheet 16 = .ok (.iconst (-1), 1) := by decide +kernel
theorem dX8_sheet_17 : decode cX8_sheet 17 = .ok (.ireturn, 1) := by decide +kernel
theorem dX8_sheet_18 : decode cX8_sheet 18 = .ok (.iload_n 3, 1) := by decide +kernel
theorem dX8_sheet_19 : decode cX8_sheet 19 = .ok (.ifCond .ge 6, 3) := by decide +kernel
theorem dX8_sheet_22 : decode cX8_sheet 22 = .ok (.bipush (-4), 2) := by decide +kernel
theorem dX8_sheet_24 : decode cX8_sheet 24 = .ok (.ireturn, 1) := by decide +kernel
theorem dX8_sheet_25 : decode cX8_sheet 25 = .ok (.iload_n 3, 1) := by decide +kernel
theorem dX8_sheet_26 : decode cX8_sheet 26 = .ok (.bipush 40, 2) := by decide +kernel
theorem dX8_sheet_28 : decode cX8_sheet 28 = .ok (.if_icmp .le 5, 3) := by decide +kernel
theorem dX8_sheet_31 : decode cX8_sheet 31 = .ok (.iconst (-1), 1) := by decide +kernel
theorem dX8_sheet_32 : decode cX8_sheet 32 = .ok (.ireturn, 1) := by decide +kernel
theorem dX8_sheet_33 : decode cX8_sheet 33 = .ok (.aload_n 0, 1) := by decide +kernel
theorem dX8_sheet_34 : decode cX8_sheet 34 = .ok (.getfield 11, 3) := by decide +kernel
theorem dX8_sheet_37 : decode cX8_sheet 37 = .ok (.iload_n 1, 1) := by decide +kernel
theorem dX8_sheet_38 : decode cX8_sheet 38 = .ok (.aaload, 1) := by decide +kernel
theorem dX8_sheet_39 : decode cX8_sheet 39 = .ok (.iload_n 2, 1) := by decide +kernel
theorem dX8_sheet_40 : decode cX8_sheet 40 = .ok (.iload_n 3, 1) := by decide +kernel
theorem dX8_sheet_41 : decode cX8_sheet 41 = .ok (.invokevirtual 70, 3) := by decide +kernel
theorem dX8_sheet_44 : decode cX8_sheet 44 = .ok (.iconst 1, 1) := by decide +kernel
theorem dX8_sheet_45 : decode cX8_sheet 45 = .ok (.ireturn, 1) := by decide +kernel
theorem dX8_cell_0 : decode cX8_cell 0 = .ok (.iload_n 1, 1) := by decide +kernel
theorem dX8_cell_1 : decode cX8_cell 1 = .ok (.invokestatic 66, 3) := by decide +kernel
theorem dX8_cell_4 : decode cX8_cell 4 = .ok (.ifCond .ne 5, 3) := by decide +kernel
theorem dX8_cell_7 : decode cX8_cell 7 = .ok (.iconst (-1), 1) := by decide +kernel
theorem dX8_cell_8 : decode cX8_cell 8 = .ok (.ireturn, 1) := by decide +kernel
theorem dX8_cell_9 : decode cX8_cell 9 = .ok (.aload_n 0, 1) := by decide +kernel
theorem dX8_cell_10 : decode cX8_cell 10 = .ok (.getfield 11, 3) := by decide +kernel
theorem dX8_cell_13 : decode cX8_cell 13 = .ok (.iload_n 1, 1) := by decide +kernel
theorem dX8_cell_14 : decode cX8_cell 14 = .ok (.aaload, 1) := by decide +kernel
theorem dX8_cell_15 : decode cX8_cell 15 = .ok (.getfield 74, 3) := by decide +kernel
theorem dX8_cell_18 : decode cX8_cell 18 = .ok (.ifCond .ne 6, 3) := by decide +kernel
theorem dX8_cell_21 : decode cX8_cell 21 = .ok (.bipush (-3), 2) := by decide +kernel
theorem dX8_cell_23 : decode cX8_cell 23 = .ok (.ireturn, 1) := by decide +kernel
theorem dX8_cell_24 : decode cX8_cell 24 = .ok (.aload_n 0, 1) := by decide +kernel
theorem dX8_cell_25 : decode cX8_cell 25 = .ok (.getfield 11, 3) := by decide +kernel
theorem dX8_cell_28 : decode cX8_cell 28 = .ok (.iload_n 1, 1) := by decide +kernel
theorem dX8_cell_29 : decode cX8_cell 29 = .ok (.aaload, 1) := by decide +kernel
theorem dX8_cell_30 : decode cX8_cell 30 = .ok (.iload_n 2, 1) := by decide +kernel
theorem dX8_cell_31 : decode cX8_cell 31 = .ok (.invokevirtual 78, 3) := by decide +kernel
theorem dX8_cell_34 : decode cX8_cell 34 = .ok (.ifCond .ne 5, 3) := by decide +kernel
theorem dX8_cell_37 : decode cX8_cell 37 = .ok (.iconst (-1), 1) := by decide +kernel
theorem dX8_cell_38 : decode cX8_cell 38 = .ok (.ireturn, 1) := by decide +kernel
theorem dX8_cell_39 : decode cX8_cell 39 = .ok (.aload_n 0, 1) := by decide +kernel
theorem dX8_cell_40 : decode cX8_cell 40 = .ok (.getfield 11, 3) := by decide +kernel
theorem dX8_cell_43 : decode cX8_cell 43 = .ok (.iload_n 1, 1) := by decide +kernel
theorem dX8_cell_44 : decode cX8_cell 44 = .ok (.aaload, 1) := by decide +kernel
theorem dX8_cell_45 : decode cX8_cell 45 = .ok (.iload_n 2, 1) := by decide +kernel
theorem dX8_cell_46 : decode cX8_cell 46 = .ok (.iload_n 3, 1) := by decide +kernel
theorem dX8_cell_47 : decode cX8_cell 47 = .ok (.invokevirtual 81, 3) := by decide +kernel
theorem dX8_cell_50 : decode cX8_cell 50 = .ok (.iconst 1, 1) := by decide +kernel
theorem dX8_cell_51 : decode cX8_cell 51 = .ok (.ireturn, 1) := by decide +kernel
theorem dX8_told_0 : decode cX8_told 0 = .ok (.iload_n 1, 1) := by decide +kernel
theorem dX8_told_1 : decode cX8_told 1 = .ok (.invokestatic 66, 3) := by decide +kernel
theorem dX8_told_4 : decode cX8_told 4 = .ok (.ifCond .eq 28, 3) := by decide +kernel
theorem dX8_told_7 : decode cX8_told 7 = .ok (.aload_n 0, 1) := by decide +kernel
theorem dX8_told_8 : decode cX8_told 8 = .ok (.getfield 11, 3) := by decide +kernel
theorem dX8_told_11 : decode cX8_told 11 = .ok (.iload_n 1, 1) := by decide +kernel
theorem dX8_told_12 : decode cX8_told 12 = .ok (.aaload, 1) := by decide +kernel
theorem dX8_told_13 : decode cX8_told 13 = .ok (.getfield 74, 3) := by decide +kernel
theorem dX8_told_16 : decode cX8_told 16 = .ok (.ifCond .eq 16, 3) := by decide +kernel
theorem dX8_told_19 : decode cX8_told 19 = .ok (.aload_n 0, 1) := by decide +kernel
theorem dX8_told_20 : decode cX8_told 20 = .ok (.getfield 11, 3) := by decide +kernel
theorem dX8_told_23 : decode cX8_told 23 = .ok (.iload_n 1, 1) := by decide +kernel
theorem dX8_told_24 : decode cX8_told 24 = .ok (.aaload, 1) := by decide +kernel
theorem dX8_told_25 : decode cX8_told 25 = .ok (.iload_n 2, 1) := by decide +kernel
theorem dX8_told_26 : decode cX8_told 26 = .ok (.invokevirtual 78, 3) := by decide +kernel
theorem dX8_told_29 : decode cX8_told 29 = .ok (.ifCond .ne 6, 3) := by decide +kernel
theorem dX8_told_32 : decode cX8_told 32 = .ok (.ldc 84, 2) := by decide +kernel
theorem dX8_told_34 : decode cX8_told 34 = .ok (.ireturn, 1) := by decide +kernel
theorem dX8_told_35 : decode cX8_told 35 = .ok (.aload_n 0, 1) := by decide +kernel
theorem dX8_told_36 : decode cX8_told 36 = .ok (.getfield 11, 3) := by decide +kernel
theorem dX8_told_39 : decode cX8_told 39 = .ok (.iload_n 1, 1) := by decide +kernel
theorem dX8_told_40 : decode cX8_told 40 = .ok (.aaload, 1) := by decide +kernel
theorem dX8_told_41 : decode cX8_told 41 = .ok (.getfield 85, 3) := by decide +kernel
theorem dX8_told_44 : decode cX8_told 44 = .ok (.iload_n 2, 1) := by decide +kernel
theorem dX8_told_45 : decode cX8_told 45 = .ok (.iaload, 1) := by decide +kernel
theorem dX8_told_46 : decode cX8_told 46 = .ok (.ireturn, 1) := by decide +kernel
theorem dX8_lose_0 : decode cX8_lose 0 = .ok (.iload_n 1, 1) := by decide +kernel
theorem dX8_lose_1 : decode cX8_lose 1 = .ok (.invokestatic 66, 3) := by decide +kernel
theorem dX8_lose_4 : decode cX8_lose 4 = .ok (.ifCond .ne 5, 3) := by decide +kernel
theorem dX8_lose_7 : decode cX8_lose 7 = .ok (.iconst (-1), 1) := by decide +kernel
theorem dX8_lose_8 : decode cX8_lose 8 = .ok (.ireturn, 1) := by decide +kernel
theorem dX8_lose_9 : decode cX8_lose 9 = .ok (.aload_n 0, 1) := by decide +kernel
theorem dX8_lose_10 : decode cX8_lose 10 = .ok (.getfield 11, 3) := by decide +kernel
theorem dX8_lose_13 : decode cX8_lose 13 = .ok (.iload_n 1, 1) := by decide +kernel
theorem dX8_lose_14 : decode cX8_lose 14 = .ok (.aaload, 1) := by decide +kernel
theorem dX8_lose_15 : decode cX8_lose 15 = .ok (.getfield 74, 3) := by decide +kernel
theorem dX8_lose_18 : decode cX8_lose 18 = .ok (.ifCond .ne 6, 3) := by decide +kernel
theorem dX8_lose_21 : decode cX8_lose 21 = .ok (.bipush (-3), 2) := by decide +kernel
theorem dX8_lose_23 : decode cX8_lose 23 = .ok (.ireturn, 1) := by decide +kernel
theorem dX8_lose_24 : decode cX8_lose 24 = .ok (.aload_n 0, 1) := by decide +kernel
theorem dX8_lose_25 : decode cX8_lose 25 = .ok (.getfield 11, 3) := by decide +kernel
theorem dX8_lose_28 : decode cX8_lose 28 = .ok (.iload_n 1, 1) := by decide +kernel
theorem dX8_lose_29 : decode cX8_lose 29 = .ok (.aaload, 1) := by decide +kernel
theorem dX8_lose_30 : decode cX8_lose 30 = .ok (.iconst 0, 1) := by decide +kernel
theorem dX8_lose_31 : decode cX8_lose 31 = .ok (.putfield 74, 3) := by decide +kernel
theorem dX8_lose_34 : decode cX8_lose 34 = .ok (.iconst 1, 1) := by decide +kernel
theorem dX8_lose_35 : decode cX8_lose 35 = .ok (.ireturn, 1) := by decide +kernel
theorem dX8_letters_0 : decode cX8_letters 0 = .ok (.iload_n 1, 1) := by decide +kernel
theorem dX8_letters_1 : decode cX8_letters 1 = .ok (.iconst 2, 1) := by decide +kernel
theorem dX8_letters_2 : decode cX8_letters 2 = .ok (.if_icmp .lt 8, 3) := by decide +kernel
theorem dX8_letters_5 : decode cX8_letters 5 = .ok (.iload_n 1, 1) := by decide +kernel
theorem dX8_letters_6 : decode cX8_letters 6 = .ok (.iconst 4, 1) := by decide +kernel
theorem dX8_letters_7 : decode cX8_letters 7 = .ok (.if_icmp .le 5, 3) := by decide +kernel
theorem dX8_letters_10 : decode cX8_letters 10 = .ok (.iconst (-1), 1) := by decide +kernel
theorem dX8_letters_11 : decode cX8_letters 11 = .ok (.ireturn, 1) := by decide +kernel
theorem dX8_letters_12 : decode cX8_letters 12 = .ok (.aload_n 0, 1) := by decide +kernel
theorem dX8_letters_13 : decode cX8_letters 13 = .ok (.getfield 33, 3) := by decide +kernel
theorem dX8_letters_16 : decode cX8_letters 16 = .ok (.iload_n 1, 1) := by decide +kernel
theorem dX8_letters_17 : decode cX8_letters 17 = .ok (.invokevirtual 88, 3) := by decide +kernel
theorem dX8_letters_20 : decode cX8_letters 20 = .ok (.aload_n 0, 1) := by decide +kernel
theorem dX8_letters_21 : decode cX8_letters 21 = .ok (.invokevirtual 92, 3) := by decide +kernel
theorem dX8_letters_24 : decode cX8_letters 24 = .ok (.iconst 0, 1) := by decide +kernel
theorem dX8_letters_25 : decode cX8_letters 25 = .ok (.istore_n 2, 1) := by decide +kernel
theorem dX8_letters_26 : decode cX8_letters 26 = .ok (.iload_n 2, 1) := by decide +kernel
theorem dX8_letters_27 : decode cX8_letters 27 = .ok (.bipush 8, 2) := by decide +kernel
theorem dX8_letters_29 : decode cX8_letters 29 = .ok (.if_icmp .ge 18, 3) := by decide +kernel
theorem dX8_letters_32 : decode cX8_letters 32 = .ok (.aload_n 0, 1) := by decide +kernel
theorem dX8_letters_33 : decode cX8_letters 33 = .ok (.getfield 17, 3) := by decide +kernel
theorem dX8_letters_36 : decode cX8_letters 36 = .ok (.iload_n 2, 1) := by decide +kernel
theorem dX8_letters_37 : decode cX8_letters 37 = .ok (.aaload, 1) := by decide +kernel
theorem dX8_letters_38 : decode cX8_letters 38 = .ok (.invokevirtual 95, 3) := by decide +kernel
theorem dX8_letters_41 : decode cX8_letters 41 = .ok (.iinc 2 1, 3) := by decide +kernel
theorem dX8_letters_44 : decode cX8_letters 44 = .ok (.goto (-18), 3) := by decide +kernel
theorem dX8_letters_47 : decode cX8_letters 47 = .ok (.iconst 1, 1) := by decide +kernel
theorem dX8_letters_48 : decode cX8_letters 48 = .ok (.ireturn, 1) := by decide +kernel
theorem dX8_state_0 : decode cX8_state 0 = .ok (.iload_n 1, 1) := by decide +kernel
theorem dX8_state_1 : decode cX8_state 1 = .ok (.invokestatic 66, 3) := by decide +kernel
theorem dX8_state_4 : decode cX8_state 4 = .ok (.ifCond .eq 7, 3) := by decide +kernel
theorem dX8_state_7 : decode cX8_state 7 = .ok (.iload_n 2, 1) := by decide +kernel
theorem dX8_state_8 : decode cX8_state 8 = .ok (.ifCond .ge 5, 3) := by decide +kernel
theorem dX8_state_11 : decode cX8_state 11 = .ok (.iconst (-1), 1) := by decide +kernel
theorem dX8_state_12 : decode cX8_state 12 = .ok (.ireturn, 1) := by decide +kernel
theorem dX8_state_13 : decode cX8_state 13 = .ok (.aload_n 0, 1) := by decide +kernel
theorem dX8_state_14 : decode cX8_state 14 = .ok (.getfield 11, 3) := by decide +kernel
theorem dX8_state_17 : decode cX8_state 17 = .ok (.iload_n 1, 1) := by decide +kernel
theorem dX8_state_18 : decode cX8_state 18 = .ok (.aaload, 1) := by decide +kernel
theorem dX8_state_19 : decode cX8_state 19 = .ok (.getfield 74, 3) := by decide +kernel
theorem dX8_state_22 : decode cX8_state 22 = .ok (.ifCond .ne 6, 3) := by decide +kernel
theorem dX8_state_25 : decode cX8_state 25 = .ok (.bipush (-3), 2) := by decide +kernel
theorem dX8_state_27 : decode cX8_state 27 = .ok (.ireturn, 1) := by decide +kernel
theorem dX8_state_28 : decode cX8_state 28 = .ok (.aload_n 0, 1) := by decide +kernel
theorem dX8_state_29 : decode cX8_state 29 = .ok (.getfield 33, 3) := by decide +kernel
theorem dX8_state_32 : decode cX8_state 32 = .ok (.aload_n 0, 1) := by decide +kernel
theorem dX8_state_33 : decode cX8_state 33 = .ok (.getfield 11, 3) := by decide +kernel
theorem dX8_state_36 : decode cX8_state 36 = .ok (.iload_n 1, 1) := by decide +kernel
theorem dX8_state_37 : decode cX8_state 37 = .ok (.aaload, 1) := by decide +kernel
theorem dX8_state_38 : decode cX8_state 38 = .ok (.iload_n 2, 1) := by decide +kernel
theorem dX8_state_39 : decode cX8_state 39 = .ok (.invokevirtual 98, 3) := by decide +kernel
theorem dX8_state_42 : decode cX8_state 42 = .ok (.ifCond .ne 5, 3) := by decide +kernel
theorem dX8_state_45 : decode cX8_state 45 = .ok (.iconst (-1), 1) := by decide +kernel
theorem dX8_state_46 : decode cX8_state 46 = .ok (.ireturn, 1) := by decide +kernel
theorem dX8_state_47 : decode cX8_state 47 = .ok (.aload_n 0, 1) := by decide +kernel
theorem dX8_state_48 : decode cX8_state 48 = .ok (.getfield 33, 3) := by decide +kernel
theorem dX8_state_51 : decode cX8_state 51 = .ok (.getfield 102, 3) := by decide +kernel
theorem dX8_state_54 : decode cX8_state 54 = .ok (.bipush 8, 2) := by decide +kernel
theorem dX8_state_56 : decode cX8_state 56 = .ok (.if_icmp .lt 6, 3) := by decide +kernel
theorem dX8_state_59 : decode cX8_state 59 = .ok (.bipush (-2), 2) := by decide +kernel
theorem dX8_state_61 : decode cX8_state 61 = .ok (.ireturn, 1) := by decide +kernel
theorem dX8_state_62 : decode cX8_state 62 = .ok (.aload_n 0, 1) := by decide +kernel
theorem dX8_state_63 : decode cX8_state 63 = .ok (.getfield 33, 3) := by decide +kernel
theorem dX8_state_66 : decode cX8_state 66 = .ok (.aload_n 0, 1) := by decide +kernel
theorem dX8_state_67 : decode cX8_state 67 = .ok (.getfield 11, 3) := by decide +kernel
theorem dX8_state_70 : decode cX8_state 70 = .ok (.iload_n 1, 1) := by decide +kernel
theorem dX8_state_71 : decode cX8_state 71 = .ok (.aaload, 1) := by decide +kernel
theorem dX8_state_72 : decode cX8_state 72 = .ok (.iload_n 2, 1) := by decide +kernel
theorem dX8_state_73 : decode cX8_state 73 = .ok (.invokevirtual 106, 3) := by decide +kernel
theorem dX8_state_76 : decode cX8_state 76 = .ok (.aload_n 0, 1) := by decide +kernel
theorem dX8_state_77 : decode cX8_state 77 = .ok (.invokevirtual 92, 3) := by decide +kernel
theorem dX8_state_80 : decode cX8_state 80 = .ok (.aload_n 0, 1) := by decide +kernel
theorem dX8_state_81 : decode cX8_state 81 = .ok (.getfield 33, 3) := by decide +kernel
theorem dX8_state_84 : decode cX8_state 84 = .ok (.getfield 102, 3) := by decide +kernel
theorem dX8_state_87 : decode cX8_state 87 = .ok (.iconst 1, 1) := by decide +kernel
theorem dX8_state_88 : decode cX8_state 88 = .ok (.isub, 1) := by decide +kernel
theorem dX8_state_89 : decode cX8_state 89 = .ok (.ireturn, 1) := by decide +kernel
theorem dX8_change_0 : decode cX8_change 0 = .ok (.aload_n 0, 1) := by decide +kernel
theorem dX8_change_1 : decode cX8_change 1 = .ok (.getfield 33, 3) := by decide +kernel
theorem dX8_change_4 : decode cX8_change 4 = .ok (.iload_n 1, 1) := by decide +kernel
theorem dX8_change_5 : decode cX8_change 5 = .ok (.invokevirtual 110, 3) := by decide +kernel
theorem dX8_change_8 : decode cX8_change 8 = .ok (.ifCond .eq 33, 3) := by decide +kernel
theorem dX8_change_11 : decode cX8_change 11 = .ok (.aload_n 0, 1) := by decide +kernel
theorem dX8_change_12 : decode cX8_change 12 = .ok (.getfield 33, 3) := by decide +kernel
theorem dX8_change_15 : decode cX8_change 15 = .ok (.iload_n 2, 1) := by decide +kernel
theorem dX8_change_16 : decode cX8_change 16 = .ok (.invokevirtual 113, 3) := by decide +kernel
theorem dX8_change_19 : decode cX8_change 19 = .ok (.ifCond .eq 22, 3) := by decide +kernel
theorem dX8_change_22 : decode cX8_change 22 = .ok (.aload_n 0, 1) := by decide +kernel
theorem dX8_change_23 : decode cX8_change 23 = .ok (.getfield 33, 3) := by decide +kernel
theorem dX8_change_26 : decode cX8_change 26 = .ok (.iload_n 3, 1) := by decide +kernel
theorem dX8_change_27 : decode cX8_change 27 = .ok (.invokevirtual 113, 3) := by decide +kernel
theorem dX8_change_30 : decode cX8_change 30 = .ok (.ifCond .eq 11, 3) := by decide +kernel
theorem dX8_change_33 : decode cX8_change 33 = .ok (.iload 4, 2) := by decide +kernel
theorem dX8_change_35 : decode cX8_change 35 = .ok (.invokestatic 116, 3) := by decide +kernel
theorem dX8_change_38 : decode cX8_change 38 = .ok (.ifCond .ne 5, 3) := by decide +kernel
theorem dX8_change_41 : decode cX8_change 41 = .ok (.iconst (-1), 1) := by decide +kernel
theorem dX8_change_42 : decode cX8_change 42 = .ok (.ireturn, 1) := by decide +kernel
theorem dX8_change_43 : decode cX8_change 43 = .ok (.aload_n 0, 1) := by decide +kernel
theorem dX8_change_44 : decode cX8_change 44 = .ok (.getfield 33, 3) := by decide +kernel
theorem dX8_change_47 : decode cX8_change 47 = .ok (.iload_n 1, 1) := by decide +kernel
theorem dX8_change_48 : decode cX8_change 48 = .ok (.iload_n 2, 1) := by decide +kernel
theorem dX8_change_49 : decode cX8_change 49 = .ok (.iload_n 3, 1) := by decide +kernel
theorem dX8_change_50 : decode cX8_change 50 = .ok (.iload 4, 2) := by decide +kernel
theorem dX8_change_52 : decode cX8_change 52 = .ok (.invokevirtual 119, 3) := by decide +kernel
theorem dX8_change_55 : decode cX8_change 55 = .ok (.aload_n 0, 1) := by decide +kernel
theorem dX8_change_56 : decode cX8_change 56 = .ok (.invokevirtual 92, 3) := by decide +kernel
theorem dX8_change_59 : decode cX8_change 59 = .ok (.iconst 0, 1) := by decide +kernel
theorem dX8_change_60 : decode cX8_change 60 = .ok (.istore 5, 2) := by decide +kernel
theorem dX8_change_62 : decode cX8_change 62 = .ok (.iload 5, 2) := by decide +kernel
theorem dX8_change_64 : decode cX8_change 64 = .ok (.bipush 8, 2) := by decide +kernel
theorem dX8_change_66 : decode cX8_change 66 = .ok (.if_icmp .ge 33, 3) := by decide +kernel
theorem dX8_change_69 : decode cX8_change 69 = .ok (.aload_n 0, 1) := by decide +kernel
theorem dX8_change_70 : decode cX8_change 70 = .ok (.aload_n 0, 1) := by decide +kernel
theorem dX8_change_71 : decode cX8_change 71 = .ok (.getfield 17, 3) := by decide +kernel
theorem dX8_change_74 : decode cX8_change 74 = .ok (.iload 5, 2) := by decide +kernel
theorem dX8_change_76 : decode cX8_change 76 = .ok (.aaload, 1) := by decide +kernel
theorem dX8_change_77 : decode cX8_change 77 = .ok (.invokevirtual 123, 3) := by decide +kernel
theorem dX8_change_80 : decode cX8_change 80 = .ok (.ifCond .eq 13, 3) := by decide +kernel
theorem dX8_change_83 : decode cX8_change 83 = .ok (.aload_n 0, 1) := by decide +kernel
theorem dX8_change_84 : decode cX8_change 84 = .ok (.getfield 17, 3) := by decide +kernel
theorem dX8_change_87 : decode cX8_change 87 = .ok (.iload 5, 2) := by decide +kernel
theorem dX8_change_89 : decode cX8_change 89 = .ok (.aaload, 1) := by decide +kernel
theorem dX8_change_90 : decode cX8_change 90 = .ok (.invokevirtual 95, 3) := by decide +kernel
theorem dX8_change_93 : decode cX8_change 93 = .ok (.iinc 5 1, 3) := by decide +kernel
theorem dX8_change_96 : decode cX8_change 96 = .ok (.goto (-34), 3) := by decide +kernel
theorem dX8_change_99 : decode cX8_change 99 = .ok (.iconst 1, 1) := by decide +kernel
theorem dX8_change_100 : decode cX8_change 100 = .ok (.ireturn, 1) := by decide +kernel
theorem dX8_of_0 : decode cX8_of 0 = .ok (.aload_n 0, 1) := by decide +kernel
theorem dX8_of_1 : decode cX8_of 1 = .ok (.getfield 33, 3) := by decide +kernel
theorem dX8_of_4 : decode cX8_of 4 = .ok (.iload_n 1, 1) := by decide +kernel
theorem dX8_of_5 : decode cX8_of 5 = .ok (.invokevirtual 110, 3) := by decide +kernel
theorem dX8_of_8 : decode cX8_of 8 = .ok (.ifCond .eq 12, 3) := by decide +kernel
theorem dX8_of_11 : decode cX8_of 11 = .ok (.iload_n 3, 1) := by decide +kernel
theorem dX8_of_12 : decode cX8_of 12 = .ok (.ifCond .lt 8, 3) := by decide +kernel
theorem dX8_of_15 : decode cX8_of 15 = .ok (.iload_n 3, 1) := by decide +kernel
theorem dX8_of_16 : decode cX8_of 16 = .ok (.iconst 2, 1) := by decide +kernel
theorem dX8_of_17 : decode cX8_of 17 = .ok (.if_icmp .le 6, 3) := by decide +kernel
theorem dX8_of_20 : decode cX8_of 20 = .ok (.bipush (-2), 2) := by decide +kernel
theorem dX8_of_22 : decode cX8_of 22 = .ok (.ireturn, 1) := by decide +kernel
theorem dX8_of_23 : decode cX8_of 23 = .ok (.iload_n 3, 1) := by decide +kernel
theorem dX8_of_24 : decode cX8_of 24 = .ok (.iconst 2, 1) := by decide +kernel
theorem dX8_of_25 : decode cX8_of 25 = .ok (.if_icmp .ne 20, 3) := by decide +kernel
theorem dX8_of_28 : decode cX8_of 28 = .ok (.aload_n 0, 1) := by decide +kernel
theorem dX8_of_29 : decode cX8_of 29 = .ok (.getfield 33, 3) := by decide +kernel
theorem dX8_of_32 : decode cX8_of 32 = .ok (.iload_n 1, 1) := by decide +kernel
theorem dX8_of_33 : decode cX8_of 33 = .ok (.invokevirtual 127, 3) := by decide +kernel
theorem dX8_of_36 : decode cX8_of 36 = .ok (.ifCond .eq 7, 3) := by decide +kernel
theorem dX8_of_39 : decode cX8_of 39 = .ok (.iconst 1, 1) := by decide +kernel
theorem dX8_of_40 : decode cX8_of 40 = .ok (.goto 4, 3) := by decide +kernel
theorem dX8_of_43 : decode cX8_of 43 = .ok (.iconst 0, 1) := by decide +kernel
theorem dX8_of_44 : decode cX8_of 44 = .ok (.ireturn, 1) := by decide +kernel
theorem dX8_of_45 : decode cX8_of 45 = .ok (.aload_n 0, 1) := by decide +kernel
theorem dX8_of_46 : decode cX8_of 46 = .ok (.getfield 33, 3) := by decide +kernel
theorem dX8_of_49 : decode cX8_of 49 = .ok (.iload_n 2, 1) := by decide +kernel
theorem dX8_of_50 : decode cX8_of 50 = .ok (.invokevirtual 113, 3) := by decide +kernel
theorem dX8_of_53 : decode cX8_of 53 = .ok (.ifCond .ne 6, 3) := by decide +kernel
theorem dX8_of_56 : decode cX8_of 56 = .ok (.bipush (-2), 2) := by decide +kernel
theorem dX8_of_58 : decode cX8_of 58 = .ok (.ireturn, 1) := by decide +kernel
theorem dX8_of_59 : decode cX8_of 59 = .ok (.iload_n 1, 1) := by decide +kernel
theorem dX8_of_60 : decode cX8_of 60 = .ok (.iconst 4, 1) := by decide +kernel
theorem dX8_of_61 : decode cX8_of 61 = .ok (.imul, 1) := by decide +kernel
theorem dX8_of_62 : decode cX8_of 62 = .ok (.iload_n 2, 1) := by decide +kernel
theorem dX8_of_63 : decode cX8_of 63 = .ok (.iadd, 1) := by decide +kernel
theorem dX8_of_64 : decode cX8_of 64 = .ok (.istore 4, 2) := by decide +kernel
theorem dX8_of_66 : decode cX8_of 66 = .ok (.iload_n 3, 1) := by decide +kernel
theorem dX8_of_67 : decode cX8_of 67 = .ok (.ifCond .ne 16, 3) := by decide +kernel
theorem dX8_of_70 : decode cX8_of 70 = .ok (.aload_n 0, 1) := by decide +kernel
theorem dX8_of_71 : decode cX8_of 71 = .ok (.getfield 33, 3) := by decide +kernel
theorem dX8_of_74 : decode cX8_of 74 = .ok (.getfield 130, 3) := by decide +kernel
theorem dX8_of_77 : decode cX8_of 77 = .ok (.iload 4, 2) := by decide +kernel
theorem dX8_of_79 : decode cX8_of 79 = .ok (.iaload, 1) := by decide +kernel
theorem dX8_of_80 : decode cX8_of 80 = .ok (.goto 13, 3) := by decide +kernel
theorem dX8_of_83 : decode cX8_of 83 = .ok (.aload_n 0, 1) := by decide +kernel
theorem dX8_of_84 : decode cX8_of 84 = .ok (.getfield 33, 3) := by decide +kernel
theorem dX8_of_87 : decode cX8_of 87 = .ok (.getfield 133, 3) := by decide +kernel
theorem dX8_of_90 : decode cX8_of 90 = .ok (.iload 4, 2) := by decide +kernel
theorem dX8_of_92 : decode cX8_of 92 = .ok (.iaload, 1) := by decide +kernel
theorem dX8_of_93 : decode cX8_of 93 = .ok (.ireturn, 1) := by decide +kernel
theorem dX8_many_0 : decode cX8_many 0 = .ok (.iload_n 1, 1) := by decide +kernel
theorem dX8_many_1 : decode cX8_many 1 = .ok (.tableswitch 71 0 3 #[31, 39, 47, 63], 31) := by decide +kernel
theorem dX8_many_32 : decode cX8_many 32 = .ok (.aload_n 0, 1) := by decide +kernel
theorem dX8_many_33 : decode cX8_many 33 = .ok (.getfield 33, 3) := by decide +kernel
theorem dX8_many_36 : decode cX8_many 36 = .ok (.getfield 136, 3) := by decide +kernel
theorem dX8_many_39 : decode cX8_many 39 = .ok (.ireturn, 1) := by decide +kernel
theorem dX8_many_40 : decode cX8_many 40 = .ok (.aload_n 0, 1) := by decide +kernel
theorem dX8_many_41 : decode cX8_many 41 = .ok (.getfield 33, 3) := by decide +kernel
theorem dX8_many_44 : decode cX8_many 44 = .ok (.getfield 102, 3) := by decide +kernel
theorem dX8_many_47 : decode cX8_many 47 = .ok (.ireturn, 1) := by decide +kernel
theorem dX8_many_48 : decode cX8_many 48 = .ok (.aload_n 0, 1) := by decide +kernel
theorem dX8_many_49 : decode cX8_many 49 = .ok (.getfield 33, 3) := by decide +kernel
theorem dX8_many_52 : decode cX8_many 52 = .ok (.getfield 139, 3) := by decide +kernel
theorem dX8_many_55 : decode cX8_many 55 = .ok (.ifCond .eq 7, 3) := by decide +kernel
theorem dX8_many_58 : decode cX8_many 58 = .ok (.iconst 1, 1) := by decide +kernel
theorem dX8_many_59 : decode cX8_many 59 = .ok (.goto 4, 3) := by decide +kernel
theorem dX8_many_62 : decode cX8_many 62 = .ok (.iconst 0, 1) := by decide +kernel
theorem dX8_many_63 : decode cX8_many 63 = .ok (.ireturn, 1) := by decide +kernel
theorem dX8_many_64 : decode cX8_many 64 = .ok (.aload_n 0, 1) := by decide +kernel
theorem dX8_many_65 : decode cX8_many 65 = .ok (.getfield 33, 3) := by decide +kernel
theorem dX8_many_68 : decode cX8_many 68 = .ok (.getfield 142, 3) := by decide +kernel
theorem dX8_many_71 : decode cX8_many 71 = .ok (.ireturn, 1) := by decide +kernel
theorem dX8_many_72 : decode cX8_many 72 = .ok (.iconst (-1), 1) := by decide +kernel
theorem dX8_many_73 : decode cX8_many 73 = .ok (.ireturn, 1) := by decide +kernel
theorem dX8_put_0 : decode cX8_put 0 = .ok (.iload_n 1, 1) := by decide +kernel
theorem dX8_put_1 : decode cX8_put 1 = .ok (.invokestatic 145, 3) := by decide +kernel
theorem dX8_put_4 : decode cX8_put 4 = .ok (.ifCond .ne 5, 3) := by decide +kernel
theorem dX8_put_7 : decode cX8_put 7 = .ok (.iconst (-1), 1) := by decide +kernel
theorem dX8_put_8 : decode cX8_put 8 = .ok (.ireturn, 1) := by decide +kernel
theorem dX8_put_9 : decode cX8_put 9 = .ok (.aload_n 0, 1) := by decide +kernel
theorem dX8_put_10 : decode cX8_put 10 = .ok (.getfield 21, 3) := by decide +kernel
theorem dX8_put_13 : decode cX8_put 13 = .ok (.iconst 0, 1) := by decide +kernel
theorem dX8_put_14 : decode cX8_put 14 = .ok (.iload_n 2, 1) := by decide +kernel
theorem dX8_put_15 : decode cX8_put 15 = .ok (.iastore, 1) := by decide +kernel
theorem dX8_put_16 : decode cX8_put 16 = .ok (.aload_n 0, 1) := by decide +kernel
theorem dX8_put_17 : decode cX8_put 17 = .ok (.getfield 21, 3) := by decide +kernel
theorem dX8_put_20 : decode cX8_put 20 = .ok (.iconst 1, 1) := by decide +kernel
theorem dX8_put_21 : decode cX8_put 21 = .ok (.iload_n 3, 1) := by decide +kernel
theorem dX8_put_22 : decode cX8_put 22 = .ok (.iastore, 1) := by decide +kernel
theorem dX8_put_23 : decode cX8_put 23 = .ok (.aload_n 0, 1) := by decide +kernel
theorem dX8_put_24 : decode cX8_put 24 = .ok (.getfield 21, 3) := by decide +kernel
theorem dX8_put_27 : decode cX8_put 27 = .ok (.iconst 2, 1) := by decide +kernel
theorem dX8_put_28 : decode cX8_put 28 = .ok (.iload 4, 2) := by decide +kernel
theorem dX8_put_30 : decode cX8_put 30 = .ok (.iastore, 1) := by decide +kernel
theorem dX8_put_31 : decode cX8_put 31 = .ok (.aload_n 0, 1) := by decide +kernel
theorem dX8_put_32 : decode cX8_put 32 = .ok (.getfield 21, 3) := by decide +kernel
theorem dX8_put_35 : decode cX8_put 35 = .ok (.iconst 3, 1) := by decide +kernel
theorem dX8_put_36 : decode cX8_put 36 = .ok (.iload 5, 2) := by decide +kernel
theorem dX8_put_38 : decode cX8_put 38 = .ok (.iastore, 1) := by decide +kernel
theorem dX8_put_39 : decode cX8_put 39 = .ok (.aload_n 0, 1) := by decide +kernel
theorem dX8_put_40 : decode cX8_put 40 = .ok (.invokevirtual 148, 3) := by decide +kernel
theorem dX8_put_43 : decode cX8_put 43 = .ok (.istore 6, 2) := by decide +kernel
theorem dX8_put_45 : decode cX8_put 45 = .ok (.iload 6, 2) := by decide +kernel
theorem dX8_put_47 : decode cX8_put 47 = .ok (.ifCond .ge 6, 3) := by decide +kernel
theorem dX8_put_50 : decode cX8_put 50 = .ok (.iload 6, 2) := by decide +kernel
theorem dX8_put_52 : decode cX8_put 52 = .ok (.ireturn, 1) := by decide +kernel
theorem dX8_put_53 : decode cX8_put 53 = .ok (.aload_n 0, 1) := by decide +kernel
theorem dX8_put_54 : decode cX8_put 54 = .ok (.getfield 26, 3) := by decide +kernel
theorem dX8_put_57 : decode cX8_put 57 = .ok (.invokevirtual 95, 3) := by decide +kernel
theorem dX8_put_60 : decode cX8_put 60 = .ok (.iconst 0, 1) := by decide +kernel
theorem dX8_put_61 : decode cX8_put 61 = .ok (.istore 7, 2) := by decide +kernel
theorem dX8_put_63 : decode cX8_put 63 = .ok (.iload 7, 2) := by decide +kernel
theorem dX8_put_65 : decode cX8_put 65 = .ok (.iconst 4, 1) := by decide +kernel
theorem dX8_put_66 : decode cX8_put 66 = .ok (.if_icmp .ge 37, 3) := by decide +kernel
theorem dX8_put_69 : decode cX8_put 69 = .ok (.aload_n 0, 1) := by decide +kernel
theorem dX8_put_70 : decode cX8_put 70 = .ok (.getfield 21, 3) := by decide +kernel
theorem dX8_put_73 : decode cX8_put 73 = .ok (.iload 7, 2) := by decide +kernel
theorem dX8_put_75 : decode cX8_put 75 = .ok (.iaload, 1) := by decide +kernel
theorem dX8_put_76 : decode cX8_put 76 = .ok (.ifCond .eq 27, 3) := by decide +kernel
theorem dX8_put_79 : decode cX8_put 79 = .ok (.aload_n 0, 1) := by decide +kernel
theorem dX8_put_80 : decode cX8_put 80 = .ok (.getfield 26, 3) := by decide +kernel
theorem dX8_put_83 : decode cX8_put 83 = .ok (.aload_n 0, 1) := by decide +kernel
theorem dX8_put_84 : decode cX8_put 84 = .ok (.getfield 21, 3) := by decide +kernel
theorem dX8_put_87 : decode cX8_put 87 = .ok (.iload 7, 2) := by decide +kernel
theorem dX8_put_89 : decode cX8_put 89 = .ok (.iaload, 1) := by decide +kernel
theorem dX8_put_90 : decode cX8_put 90 = .ok (.invokestatic 152, 3) := by decide +kernel
theorem dX8_put_93 : decode cX8_put 93 = .ok (.invokevirtual 156, 3) := by decide +kernel
theorem dX8_put_96 : decode cX8_put 96 = .ok (.pop, 1) := by decide +kernel
theorem dX8_put_97 : decode cX8_put 97 = .ok (.iinc 7 1, 3) := by decide +kernel
theorem dX8_put_100 : decode cX8_put 100 = .ok (.goto (-37), 3) := by decide +kernel
theorem dX8_put_103 : decode cX8_put 103 = .ok (.aload_n 0, 1) := by decide +kernel
theorem dX8_put_104 : decode cX8_put 104 = .ok (.aload_n 0, 1) := by decide +kernel
theorem dX8_put_105 : decode cX8_put 105 = .ok (.getfield 17, 3) := by decide +kernel
theorem dX8_put_108 : decode cX8_put 108 = .ok (.iload_n 1, 1) := by decide +kernel
theorem dX8_put_109 : decode cX8_put 109 = .ok (.aaload, 1) := by decide +kernel
theorem dX8_put_110 : decode cX8_put 110 = .ok (.aload_n 0, 1) := by decide +kernel
theorem dX8_put_111 : decode cX8_put 111 = .ok (.getfield 26, 3) := by decide +kernel
theorem dX8_put_114 : decode cX8_put 114 = .ok (.iload_n 1, 1) := by decide +kernel
theorem dX8_put_115 : decode cX8_put 115 = .ok (.invokevirtual 159, 3) := by decide +kernel
theorem dX8_put_118 : decode cX8_put 118 = .ok (.ireturn, 1) := by decide +kernel
theorem dX8_wipe_0 : decode cX8_wipe 0 = .ok (.iload_n 1, 1) := by decide +kernel
theorem dX8_wipe_1 : decode cX8_wipe 1 = .ok (.invokestatic 145, 3) := by decide +kernel
theorem dX8_wipe_4 : decode cX8_wipe 4 = .ok (.ifCond .ne 5, 3) := by decide +kernel
theorem dX8_wipe_7 : decode cX8_wipe 7 = .ok (.iconst (-1), 1) := by decide +kernel
theorem dX8_wipe_8 : decode cX8_wipe 8 = .ok (.ireturn, 1) := by decide +kernel
theorem dX8_wipe_9 : decode cX8_wipe 9 = .ok (.aload_n 0, 1) := by decide +kernel
theorem dX8_wipe_10 : decode cX8_wipe 10 = .ok (.getfield 17, 3) := by decide +kernel
theorem dX8_wipe_13 : decode cX8_wipe 13 = .ok (.iload_n 1, 1) := by decide +kernel
theorem dX8_wipe_14 : decode cX8_wipe 14 = .ok (.aaload, 1) := by decide +kernel
theorem dX8_wipe_15 : decode cX8_wipe 15 = .ok (.getfield 163, 3) := by decide +kernel
theorem dX8_wipe_18 : decode cX8_wipe 18 = .ok (.istore_n 2, 1) := by decide +kernel
theorem dX8_wipe_19 : decode cX8_wipe 19 = .ok (.aload_n 0, 1) := by decide +kernel
theorem dX8_wipe_20 : decode cX8_wipe 20 = .ok (.getfield 17, 3) := by decide +kernel
theorem dX8_wipe_23 : decode cX8_wipe 23 = .ok (.iload_n 1, 1) := by decide +kernel
theorem dX8_wipe_24 : decode cX8_wipe 24 = .ok (.aaload, 1) := by decide +kernel
theorem dX8_wipe_25 : decode cX8_wipe 25 = .ok (.invokevirtual 95, 3) := by decide +kernel
theorem dX8_wipe_28 : decode cX8_wipe 28 = .ok (.iload_n 2, 1) := by decide +kernel
theorem dX8_wipe_29 : decode cX8_wipe 29 = .ok (.ireturn, 1) := by decide +kernel
theorem dX8_size_0 : decode cX8_size 0 = .ok (.iload_n 1, 1) := by decide +kernel
theorem dX8_size_1 : decode cX8_size 1 = .ok (.invokestatic 145, 3) := by decide +kernel
theorem dX8_size_4 : decode cX8_size 4 = .ok (.ifCond .eq 15, 3) := by decide +kernel
theorem dX8_size_7 : decode cX8_size 7 = .ok (.aload_n 0, 1) := by decide +kernel
theorem dX8_size_8 : decode cX8_size 8 = .ok (.getfield 17, 3) := by decide +kernel
theorem dX8_size_11 : decode cX8_size 11 = .ok (.iload_n 1, 1) := by decide +kernel
theorem dX8_size_12 : decode cX8_size 12 = .ok (.aaload, 1) := by decide +kernel
theorem dX8_size_13 : decode cX8_size 13 = .ok (.getfield 163, 3) := by decide +kernel
theorem dX8_size_16 : decode cX8_size 16 = .ok (.goto 4, 3) := by decide +kernel
theorem dX8_size_19 : decode cX8_size 19 = .ok (.iconst (-1), 1) := by decide +kernel
theorem dX8_size_20 : decode cX8_size 20 = .ok (.ireturn, 1) := by decide +kernel
theorem dX8_token_0 : decode cX8_token 0 = .ok (.iload_n 1, 1) := by decide +kernel
theorem dX8_token_1 : decode cX8_token 1 = .ok (.invokestatic 145, 3) := by decide +kernel
theorem dX8_token_4 : decode cX8_token 4 = .ok (.ifCond .eq 20, 3) := by decide +kernel
theorem dX8_token_7 : decode cX8_token 7 = .ok (.iload_n 2, 1) := by decide +kernel
theorem dX8_token_8 : decode cX8_token 8 = .ok (.ifCond .lt 16, 3) := by decide +kernel
theorem dX8_token_11 : decode cX8_token 11 = .ok (.iload_n 2, 1) := by decide +kernel
theorem dX8_token_12 : decode cX8_token 12 = .ok (.aload_n 0, 1) := by decide +kernel
theorem dX8_token_13 : decode cX8_token 13 = .ok (.getfield 17, 3) := by decide +kernel
theorem dX8_token_16 : decode cX8_token 16 = .ok (.iload_n 1, 1) := by decide +kernel
theorem dX8_token_17 : decode cX8_token 17 = .ok (.aaload, 1) := by decide +kernel
theorem dX8_token_18 : decode cX8_token 18 = .ok (.getfield 163, 3) := by decide +kernel
theorem dX8_token_21 : decode cX8_token 21 = .ok (.if_icmp .lt 5, 3) := by decide +kernel
theorem dX8_token_24 : decode cX8_token 24 = .ok (.iconst 0, 1) := by decide +kernel
theorem dX8_token_25 : decode cX8_token 25 = .ok (.ireturn, 1) := by decide +kernel
theorem dX8_token_26 : decode cX8_token 26 = .ok (.aload_n 0, 1) := by decide +kernel
theorem dX8_token_27 : decode cX8_token 27 = .ok (.getfield 17, 3) := by decide +kernel
theorem dX8_token_30 : decode cX8_token 30 = .ok (.iload_n 1, 1) := by decide +kernel
theorem dX8_token_31 : decode cX8_token 31 = .ok (.aaload, 1) := by decide +kernel
theorem dX8_token_32 : decode cX8_token 32 = .ok (.iload_n 2, 1) := by decide +kernel
theorem dX8_token_33 : decode cX8_token 33 = .ok (.invokevirtual 166, 3) := by decide +kernel
theorem dX8_token_36 : decode cX8_token 36 = .ok (.invokestatic 169, 3) := by decide +kernel
theorem dX8_token_39 : decode cX8_token 39 = .ok (.ireturn, 1) := by decide +kernel
theorem dX8_times_0 : decode cX8_times 0 = .ok (.iload_n 1, 1) := by decide +kernel
theorem dX8_times_1 : decode cX8_times 1 = .ok (.invokestatic 145, 3) := by decide +kernel
theorem dX8_times_4 : decode cX8_times 4 = .ok (.ifCond .eq 17, 3) := by decide +kernel
theorem dX8_times_7 : decode cX8_times 7 = .ok (.iload_n 2, 1) := by decide +kernel
theorem dX8_times_8 : decode cX8_times 8 = .ok (.invokestatic 145, 3) := by decide +kernel
theorem dX8_times_11 : decode cX8_times 11 = .ok (.ifCond .eq 10, 3) := by decide +kernel
theorem dX8_times_14 : decode cX8_times 14 = .ok (.iload_n 3, 1) := by decide +kernel
theorem dX8_times_15 : decode cX8_times 15 = .ok (.invokestatic 145, 3) := by decide +kernel
theorem dX8_times_18 : decode cX8_times 18 = .ok (.ifCond .ne 5, 3) := by decide +kernel
theorem dX8_times_21 : decode cX8_times 21 = .ok (.iconst (-1), 1) := by decide +kernel
theorem dX8_times_22 : decode cX8_times 22 = .ok (.ireturn, 1) := by decide +kernel
theorem dX8_times_23 : decode cX8_times 23 = .ok (.aload_n 0, 1) := by decide +kernel
theorem dX8_times_24 : decode cX8_times 24 = .ok (.aload_n 0, 1) := by decide +kernel
theorem dX8_times_25 : decode cX8_times 25 = .ok (.getfield 17, 3) := by decide +kernel
theorem dX8_times_28 : decode cX8_times 28 = .ok (.iload_n 1, 1) := by decide +kernel
theorem dX8_times_29 : decode cX8_times 29 = .ok (.aaload, 1) := by decide +kernel
theorem dX8_times_30 : decode cX8_times 30 = .ok (.aload_n 0, 1) := by decide +kernel
theorem dX8_times_31 : decode cX8_times 31 = .ok (.getfield 17, 3) := by decide +kernel
theorem dX8_times_34 : decode cX8_times 34 = .ok (.iload_n 2, 1) := by decide +kernel
theorem dX8_times_35 : decode cX8_times 35 = .ok (.aaload, 1) := by decide +kernel
theorem dX8_times_36 : decode cX8_times 36 = .ok (.iload_n 3, 1) := by decide +kernel
theorem dX8_times_37 : decode cX8_times 37 = .ok (.invokevirtual 159, 3) := by decide +kernel
theorem dX8_times_40 : decode cX8_times 40 = .ok (.ireturn, 1) := by decide +kernel
theorem dX8_turn_0 : decode cX8_turn 0 = .ok (.iload_n 1, 1) := by decide +kernel
theorem dX8_turn_1 : decode cX8_turn 1 = .ok (.invokestatic 145, 3) := by decide +kernel
theorem dX8_turn_4 : decode cX8_turn 4 = .ok (.ifCond .eq 10, 3) := by decide +kernel
theorem dX8_turn_7 : decode cX8_turn 7 = .ok (.iload_n 2, 1) := by decide +kernel
theorem dX8_turn_8 : decode cX8_turn 8 = .ok (.invokestatic 145, 3) := by decide +kernel
theorem dX8_turn_11 : decode cX8_turn 11 = .ok (.ifCond .ne 5, 3) := by decide +kernel
theorem dX8_turn_14 : decode cX8_turn 14 = .ok (.iconst (-1), 1) := by decide +kernel
theorem dX8_turn_15 : decode cX8_turn 15 = .ok (.ireturn, 1) := by decide +kernel
theorem dX8_turn_16 : decode cX8_turn 16 = .ok (.aload_n 0, 1) := by decide +kernel
theorem dX8_turn_17 : decode cX8_turn 17 = .ok (.aload_n 0, 1) := by decide +kernel
theorem dX8_turn_18 : decode cX8_turn 18 = .ok (.getfield 17, 3) := by decide +kernel
theorem dX8_turn_21 : decode cX8_turn 21 = .ok (.iload_n 1, 1) := by decide +kernel
theorem dX8_turn_22 : decode cX8_turn 22 = .ok (.aaload, 1) := by decide +kernel
theorem dX8_turn_23 : decode cX8_turn 23 = .ok (.invokevirtual 172, 3) := by decide +kernel
theorem dX8_turn_26 : decode cX8_turn 26 = .ok (.ifCond .ne 6, 3) := by decide +kernel
theorem dX8_turn_29 : decode cX8_turn 29 = .ok (.bipush (-6), 2) := by decide +kernel
theorem dX8_turn_31 : decode cX8_turn 31 = .ok (.ireturn, 1) := by decide +kernel
theorem dX8_turn_32 : decode cX8_turn 32 = .ok (.aload_n 0, 1) := by decide +kernel
theorem dX8_turn_33 : decode cX8_turn 33 = .ok (.getfield 26, 3) := by decide +kernel
theorem dX8_turn_36 : decode cX8_turn 36 = .ok (.invokevirtual 95, 3) := by decide +kernel
theorem dX8_turn_39 : decode cX8_turn 39 = .ok (.aload_n 0, 1) := by decide +kernel
theorem dX8_turn_40 : decode cX8_turn 40 = .ok (.getfield 17, 3) := by decide +kernel
theorem dX8_turn_43 : decode cX8_turn 43 = .ok (.iload_n 1, 1) := by decide +kernel
theorem dX8_turn_44 : decode cX8_turn 44 = .ok (.aaload, 1) := by decide +kernel
theorem dX8_turn_45 : decode cX8_turn 45 = .ok (.getfield 163, 3) := by decide +kernel
theorem dX8_turn_48 : decode cX8_turn 48 = .ok (.iconst 1, 1) := by decide +kernel
theorem dX8_turn_49 : decode cX8_turn 49 = .ok (.isub, 1) := by decide +kernel
theorem dX8_turn_50 : decode cX8_turn 50 = .ok (.istore_n 3, 1) := by decide +kernel
theorem dX8_turn_51 : decode cX8_turn 51 = .ok (.iload_n 3, 1) := by decide +kernel
theorem dX8_turn_52 : decode cX8_turn 52 = .ok (.ifCond .lt 29, 3) := by decide +kernel
theorem dX8_turn_55 : decode cX8_turn 55 = .ok (.aload_n 0, 1) := by decide +kernel
theorem dX8_turn_56 : decode cX8_turn 56 = .ok (.getfield 26, 3) := by decide +kernel
theorem dX8_turn_59 : decode cX8_turn 59 = .ok (.aload_n 0, 1) := by decide +kernel
theorem dX8_turn_60 : decode cX8_turn 60 = .ok (.getfield 17, 3) := by decide +kernel
theorem dX8_turn_63 : decode cX8_turn 63 = .ok (.iload_n 1, 1) := by decide +kernel
theorem dX8_turn_64 : decode cX8_turn 64 = .ok (.aaload, 1) := by decide +kernel
theorem dX8_turn_65 : decode cX8_turn 65 = .ok (.iload_n 3, 1) := by decide +kernel
theorem dX8_turn_66 : decode cX8_turn 66 = .ok (.invokevirtual 166, 3) := by decide +kernel
theorem dX8_turn_69 : decode cX8_turn 69 = .ok (.iconst 1, 1) := by decide +kernel
theorem dX8_turn_70 : decode cX8_turn 70 = .ok (.ixor, 1) := by decide +kernel
theorem dX8_turn_71 : decode cX8_turn 71 = .ok (.invokevirtual 156, 3) := by decide +kernel
theorem dX8_turn_74 : decode cX8_turn 74 = .ok (.pop, 1) := by decide +kernel
theorem dX8_turn_75 : decode cX8_turn 75 = .ok (.iinc 3 (-1), 3) := by decide +kernel
theorem dX8_turn_78 : decode cX8_turn 78 = .ok (.goto (-27), 3) := by decide +kernel
theorem dX8_turn_81 : decode cX8_turn 81 = .ok (.aload_n 0, 1) := by decide +kernel
theorem dX8_turn_82 : decode cX8_turn 82 = .ok (.aload_n 0, 1) := by decide +kernel
theorem dX8_turn_83 : decode cX8_turn 83 = .ok (.getfield 26, 3) := by decide +kernel
theorem dX8_turn_86 : decode cX8_turn 86 = .ok (.iload_n 2, 1) := by decide +kernel
theorem dX8_turn_87 : decode cX8_turn 87 = .ok (.invokevirtual 175, 3) := by decide +kernel
theorem dX8_turn_90 : decode cX8_turn 90 = .ok (.ireturn, 1) := by decide +kernel
theorem dX8_act_0 : decode cX8_act 0 = .ok (.aload_n 0, 1) := by decide +kernel
theorem dX8_act_1 : decode cX8_act 1 = .ok (.getfield 33, 3) := by decide +kernel
theorem dX8_act_4 : decode cX8_act 4 = .ok (.iload_n 2, 1) := by decide +kernel
theorem dX8_act_5 : decode cX8_act 5 = .ok (.invokevirtual 179, 3) := by decide +kernel
theorem dX8_act_8 : decode cX8_act 8 = .ok (.istore_n 3, 1) := by decide +kernel
theorem dX8_act_9 : decode cX8_act 9 = .ok (.iload_n 1, 1) := by decide +kernel
theorem dX8_act_10 : decode cX8_act 10 = .ok (.invokestatic 145, 3) := by decide +kernel
theorem dX8_act_13 : decode cX8_act 13 = .ok (.ifCond .eq 7, 3) := by decide +kernel
theorem dX8_act_16 : decode cX8_act 16 = .ok (.iload_n 3, 1) := by decide +kernel
theorem dX8_act_17 : decode cX8_act 17 = .ok (.ifCond .ge 5, 3) := by decide +kernel
theorem dX8_act_20 : decode cX8_act 20 = .ok (.iconst (-1), 1) := by decide +kernel
theorem dX8_act_21 : decode cX8_act 21 = .ok (.ireturn, 1) := by decide +kernel
theorem dX8_act_22 : decode cX8_act 22 = .ok (.aload_n 0, 1) := by decide +kernel
theorem dX8_act_23 : decode cX8_act 23 = .ok (.getfield 33, 3) := by decide +kernel
theorem dX8_act_26 : decode cX8_act 26 = .ok (.getfield 139, 3) := by decide +kernel
theorem dX8_act_29 : decode cX8_act 29 = .ok (.ifCond .ne 6, 3) := by decide +kernel
theorem dX8_act_32 : decode cX8_act 32 = .ok (.bipush (-5), 2) := by decide +kernel
theorem dX8_act_34 : decode cX8_act 34 = .ok (.ireturn, 1) := by decide +kernel
theorem dX8_act_35 : decode cX8_act 35 = .ok (.aload_n 0, 1) := by decide +kernel
theorem dX8_act_36 : decode cX8_act 36 = .ok (.getfield 26, 3) := by decide +kernel
theorem dX8_act_39 : decode cX8_act 39 = .ok (.aload_n 0, 1) := by decide +kernel
theorem dX8_act_40 : decode cX8_act 40 = .ok (.getfield 17, 3) := by decide +kernel
theorem dX8_act_43 : decode cX8_act 43 = .ok (.iload_n 1, 1) := by decide +kernel
theorem dX8_act_44 : decode cX8_act 44 = .ok (.aaload, 1) := by decide +kernel
theorem dX8_act_45 : decode cX8_act 45 = .ok (.invokevirtual 182, 3) := by decide +kernel
theorem dX8_act_48 : decode cX8_act 48 = .ok (.aload_n 0, 1) := by decide +kernel
theorem dX8_act_49 : decode cX8_act 49 = .ok (.aload_n 0, 1) := by decide +kernel
theorem dX8_act_50 : decode cX8_act 50 = .ok (.getfield 26, 3) := by decide +kernel
theorem dX8_act_53 : decode cX8_act 53 = .ok (.iload_n 2, 1) := by decide +kernel
theorem dX8_act_54 : decode cX8_act 54 = .ok (.iload_n 3, 1) := by decide +kernel
theorem dX8_act_55 : decode cX8_act 55 = .ok (.invokevirtual 186, 3) := by decide +kernel
theorem dX8_act_58 : decode cX8_act 58 = .ok (.ireturn, 1) := by decide +kernel
theorem dX8_part_0 : decode cX8_part 0 = .ok (.aload_n 0, 1) := by decide +kernel
theorem dX8_part_1 : decode cX8_part 1 = .ok (.getfield 33, 3) := by decide +kernel
theorem dX8_part_4 : decode cX8_part 4 = .ok (.iload_n 2, 1) := by decide +kernel
theorem dX8_part_5 : decode cX8_part 5 = .ok (.invokevirtual 179, 3) := by decide +kernel
theorem dX8_part_8 : decode cX8_part 8 = .ok (.istore 4, 2) := by decide +kernel
theorem dX8_part_10 : decode cX8_part 10 = .ok (.iload_n 1, 1) := by decide +kernel
theorem dX8_part_11 : decode cX8_part 11 = .ok (.invokestatic 145, 3) := by decide +kernel
theorem dX8_part_14 : decode cX8_part 14 = .ok (.ifCond .eq 15, 3) := by decide +kernel
theorem dX8_part_17 : decode cX8_part 17 = .ok (.iload 4, 2) := by decide +kernel
theorem dX8_part_19 : decode cX8_part 19 = .ok (.ifCond .lt 10, 3) := by decide +kernel
theorem dX8_part_22 : decode cX8_part 22 = .ok (.iload_n 3, 1) := by decide +kernel
theorem dX8_part_23 : decode cX8_part 23 = .ok (.invokestatic 145, 3) := by decide +kernel
theorem dX8_part_26 : decode cX8_part 26 = .ok (.ifCond .ne 5, 3) := by decide +kernel
theorem dX8_part_29 : decode cX8_part 29 = .ok (.iconst (-1), 1) := by decide +kernel
theorem dX8_part_30 : decode cX8_part 30 = .ok (.ireturn, 1) := by decide +kernel
theorem dX8_part_31 : decode cX8_part 31 = .ok (.aload_n 0, 1) := by decide +kernel
theorem dX8_part_32 : decode cX8_part 32 = .ok (.getfield 33, 3) := by decide +kernel
theorem dX8_part_35 : decode cX8_part 35 = .ok (.getfield 139, 3) := by decide +kernel
theorem dX8_part_38 : decode cX8_part 38 = .ok (.ifCond .ne 6, 3) := by decide +kernel
theorem dX8_part_41 : decode cX8_part 41 = .ok (.bipush (-5), 2) := by decide +kernel
theorem dX8_part_43 : decode cX8_part 43 = .ok (.ireturn, 1) := by decide +kernel
theorem dX8_part_44 : decode cX8_part 44 = .ok (.aload_n 0, 1) := by decide +kernel
theorem dX8_part_45 : decode cX8_part 45 = .ok (.getfield 26, 3) := by decide +kernel
theorem dX8_part_48 : decode cX8_part 48 = .ok (.aload_n 0, 1) := by decide +kernel
theorem dX8_part_49 : decode cX8_part 49 = .ok (.getfield 17, 3) := by decide +kernel
theorem dX8_part_52 : decode cX8_part 52 = .ok (.iload_n 1, 1) := by decide +kernel
theorem dX8_part_53 : decode cX8_part 53 = .ok (.aaload, 1) := by decide +kernel
theorem dX8_part_54 : decode cX8_part 54 = .ok (.invokevirtual 182, 3) := by decide +kernel
theorem dX8_part_57 : decode cX8_part 57 = .ok (.aload_n 0, 1) := by decide +kernel
theorem dX8_part_58 : decode cX8_part 58 = .ok (.aload_n 0, 1) := by decide +kernel
theorem dX8_part_59 : decode cX8_part 59 = .ok (.getfield 26, 3) := by decide +kernel
theorem dX8_part_62 : decode cX8_part 62 = .ok (.iload_n 2, 1) := by decide +kernel
theorem dX8_part_63 : decode cX8_part 63 = .ok (.iload 4, 2) := by decide +kernel
theorem dX8_part_65 : decode cX8_part 65 = .ok (.invokevirtual 186, 3) := by decide +kernel
theorem dX8_part_68 : decode cX8_part 68 = .ok (.pop, 1) := by decide +kernel
theorem dX8_part_69 : decode cX8_part 69 = .ok (.aload_n 0, 1) := by decide +kernel
theorem dX8_part_70 : decode cX8_part 70 = .ok (.aload_n 0, 1) := by decide +kernel
theorem dX8_part_71 : decode cX8_part 71 = .ok (.getfield 26, 3) := by decide +kernel
theorem dX8_part_74 : decode cX8_part 74 = .ok (.iload_n 3, 1) := by decide +kernel
theorem dX8_part_75 : decode cX8_part 75 = .ok (.invokevirtual 175, 3) := by decide +kernel
theorem dX8_part_78 : decode cX8_part 78 = .ok (.ireturn, 1) := by decide +kernel
theorem dX8_same_0 : decode cX8_same 0 = .ok (.aload_n 0, 1) := by decide +kernel
theorem dX8_same_1 : decode cX8_same 1 = .ok (.iload_n 1, 1) := by decide +kernel
theorem dX8_same_2 : decode cX8_same 2 = .ok (.iload_n 2, 1) := by decide +kernel
theorem dX8_same_3 : decode cX8_same 3 = .ok (.invokevirtual 190, 3) := by decide +kernel
theorem dX8_same_6 : decode cX8_same 6 = .ok (.istore_n 3, 1) := by decide +kernel
theorem dX8_same_7 : decode cX8_same 7 = .ok (.iload_n 3, 1) := by decide +kernel
theorem dX8_same_8 : decode cX8_same 8 = .ok (.ifCond .ge 5, 3) := by decide +kernel
theorem dX8_same_11 : decode cX8_same 11 = .ok (.iload_n 3, 1) := by decide +kernel
theorem dX8_same_12 : decode cX8_same 12 = .ok (.ireturn, 1) := by decide +kernel
theorem dX8_same_13 : decode cX8_same 13 = .ok (.aload_n 0, 1) := by decide +kernel
theorem dX8_same_14 : decode cX8_same 14 = .ok (.getfield 54, 3) := by decide +kernel
theorem dX8_same_17 : decode cX8_same 17 = .ok (.invokevirtual 194, 3) := by decide +kernel
theorem dX8_same_20 : decode cX8_same 20 = .ok (.aload_n 0, 1) := by decide +kernel
theorem dX8_same_21 : decode cX8_same 21 = .ok (.getfield 54, 3) := by decide +kernel
theorem dX8_same_24 : decode cX8_same 24 = .ok (.aload_n 0, 1) := by decide +kernel
theorem dX8_same_25 : decode cX8_same 25 = .ok (.getfield 54, 3) := by decide +kernel
theorem dX8_same_28 : decode cX8_same 28 = .ok (.aload_n 0, 1) := by decide +kernel
theorem dX8_same_29 : decode cX8_same 29 = .ok (.getfield 17, 3) := by decide +kernel
theorem dX8_same_32 : decode cX8_same 32 = .ok (.iload_n 1, 1) := by decide +kernel
theorem dX8_same_33 : decode cX8_same 33 = .ok (.aaload, 1) := by decide +kernel
theorem dX8_same_34 : decode cX8_same 34 = .ok (.invokevirtual 197, 3) := by decide +kernel
theorem dX8_same_37 : decode cX8_same 37 = .ok (.aload_n 0, 1) := by decide +kernel
theorem dX8_same_38 : decode cX8_same 38 = .ok (.getfield 54, 3) := by decide +kernel
theorem dX8_same_41 : decode cX8_same 41 = .ok (.aload_n 0, 1) := by decide +kernel
theorem dX8_same_42 : decode cX8_same 42 = .ok (.getfield 17, 3) := by decide +kernel
theorem dX8_same_45 : decode cX8_same 45 = .ok (.iload_n 2, 1) := by decide +kernel
theorem dX8_same_46 : decode cX8_same 46 = .ok (.aaload, 1) := by decide +kernel
theorem dX8_same_47 : decode cX8_same 47 = .ok (.invokevirtual 197, 3) := by decide +kernel
theorem dX8_same_50 : decode cX8_same 50 = .ok (.invokevirtual 201, 3) := by decide +kernel
theorem dX8_same_53 : decode cX8_same 53 = .ok (.ifCond .eq 7, 3) := by decide +kernel
theorem dX8_same_56 : decode cX8_same 56 = .ok (.iconst 1, 1) := by decide +kernel
theorem dX8_same_57 : decode cX8_same 57 = .ok (.goto 4, 3) := by decide +kernel
theorem dX8_same_60 : decode cX8_same 60 = .ok (.iconst 0, 1) := by decide +kernel
theorem dX8_same_61 : decode cX8_same 61 = .ok (.ireturn, 1) := by decide +kernel
theorem dX8_apart_0 : decode cX8_apart 0 = .ok (.aload_n 0, 1) := by decide +kernel
theorem dX8_apart_1 : decode cX8_apart 1 = .ok (.iload_n 1, 1) := by decide +kernel
theorem dX8_apart_2 : decode cX8_apart 2 = .ok (.iload_n 2, 1) := by decide +kernel
theorem dX8_apart_3 : decode cX8_apart 3 = .ok (.invokevirtual 190, 3) := by decide +kernel
theorem dX8_apart_6 : decode cX8_apart 6 = .ok (.istore_n 3, 1) := by decide +kernel
theorem dX8_apart_7 : decode cX8_apart 7 = .ok (.iload_n 3, 1) := by decide +kernel
theorem dX8_apart_8 : decode cX8_apart 8 = .ok (.ifCond .ge 5, 3) := by decide +kernel
theorem dX8_apart_11 : decode cX8_apart 11 = .ok (.iload_n 3, 1) := by decide +kernel
theorem dX8_apart_12 : decode cX8_apart 12 = .ok (.ireturn, 1) := by decide +kernel
theorem dX8_apart_13 : decode cX8_apart 13 = .ok (.aload_n 0, 1) := by decide +kernel
theorem dX8_apart_14 : decode cX8_apart 14 = .ok (.getfield 54, 3) := by decide +kernel
theorem dX8_apart_17 : decode cX8_apart 17 = .ok (.invokevirtual 194, 3) := by decide +kernel
theorem dX8_apart_20 : decode cX8_apart 20 = .ok (.aload_n 0, 1) := by decide +kernel
theorem dX8_apart_21 : decode cX8_apart 21 = .ok (.getfield 54, 3) := by decide +kernel
theorem dX8_apart_24 : decode cX8_apart 24 = .ok (.aload_n 0, 1) := by decide +kernel
theorem dX8_apart_25 : decode cX8_apart 25 = .ok (.getfield 54, 3) := by decide +kernel
theorem dX8_apart_28 : decode cX8_apart 28 = .ok (.aload_n 0, 1) := by decide +kernel
theorem dX8_apart_29 : decode cX8_apart 29 = .ok (.getfield 17, 3) := by decide +kernel
theorem dX8_apart_32 : decode cX8_apart 32 = .ok (.iload_n 1, 1) := by decide +kernel
theorem dX8_apart_33 : decode cX8_apart 33 = .ok (.aaload, 1) := by decide +kernel
theorem dX8_apart_34 : decode cX8_apart 34 = .ok (.invokevirtual 197, 3) := by decide +kernel
theorem dX8_apart_37 : decode cX8_apart 37 = .ok (.aload_n 0, 1) := by decide +kernel
theorem dX8_apart_38 : decode cX8_apart 38 = .ok (.getfield 54, 3) := by decide +kernel
theorem dX8_apart_41 : decode cX8_apart 41 = .ok (.aload_n 0, 1) := by decide +kernel
theorem dX8_apart_42 : decode cX8_apart 42 = .ok (.getfield 17, 3) := by decide +kernel
theorem dX8_apart_45 : decode cX8_apart 45 = .ok (.iload_n 2, 1) := by decide +kernel
theorem dX8_apart_46 : decode cX8_apart 46 = .ok (.aaload, 1) := by decide +kernel
theorem dX8_apart_47 : decode cX8_apart 47 = .ok (.invokevirtual 197, 3) := by decide +kernel
theorem dX8_apart_50 : decode cX8_apart 50 = .ok (.invokevirtual 205, 3) := by decide +kernel
theorem dX8_apart_53 : decode cX8_apart 53 = .ok (.ireturn, 1) := by decide +kernel
theorem dX8_heap_0 : decode cX8_heap 0 = .ok (.aload_n 0, 1) := by decide +kernel
theorem dX8_heap_1 : decode cX8_heap 1 = .ok (.iload_n 1, 1) := by decide +kernel
theorem dX8_heap_2 : decode cX8_heap 2 = .ok (.iload_n 1, 1) := by decide +kernel
theorem dX8_heap_3 : decode cX8_heap 3 = .ok (.invokevirtual 190, 3) := by decide +kernel
theorem dX8_heap_6 : decode cX8_heap 6 = .ok (.istore_n 2, 1) := by decide +kernel
theorem dX8_heap_7 : decode cX8_heap 7 = .ok (.iload_n 2, 1) := by decide +kernel
theorem dX8_heap_8 : decode cX8_heap 8 = .ok (.ifCond .ge 7, 3) := by decide +kernel
theorem dX8_heap_11 : decode cX8_heap 11 = .ok (.iload_n 2, 1) := by decide +kernel
theorem dX8_heap_12 : decode cX8_heap 12 = .ok (.goto 13, 3) := by decide +kernel
theorem dX8_heap_15 : decode cX8_heap 15 = .ok (.aload_n 0, 1) := by decide +kernel
theorem dX8_heap_16 : decode cX8_heap 16 = .ok (.getfield 54, 3) := by decide +kernel
theorem dX8_heap_19 : decode cX8_heap 19 = .ok (.getfield 208, 3) := by decide +kernel
theorem dX8_heap_22 : decode cX8_heap 22 = .ok (.getfield 212, 3) := by decide +kernel
theorem dX8_heap_25 : decode cX8_heap 25 = .ok (.ireturn, 1) := by decide +kernel
theorem dX8_least_0 : decode cX8_least 0 = .ok (.aload_n 0, 1) := by decide +kernel
theorem dX8_least_1 : decode cX8_least 1 = .ok (.iload_n 1, 1) := by decide +kernel
theorem dX8_least_2 : decode cX8_least 2 = .ok (.iload_n 1, 1) := by decide +kernel
theorem dX8_least_3 : decode cX8_least 3 = .ok (.invokevirtual 190, 3) := by decide +kernel
theorem dX8_least_6 : decode cX8_least 6 = .ok (.istore_n 2, 1) := by decide +kernel
theorem dX8_least_7 : decode cX8_least 7 = .ok (.iload_n 2, 1) := by decide +kernel
theorem dX8_least_8 : decode cX8_least 8 = .ok (.ifCond .ge 5, 3) := by decide +kernel
theorem dX8_least_11 : decode cX8_least 11 = .ok (.iload_n 2, 1) := by decide +kernel
theorem dX8_least_12 : decode cX8_least 12 = .ok (.ireturn, 1) := by decide +kernel
theorem dX8_least_13 : decode cX8_least 13 = .ok (.aload_n 0, 1) := by decide +kernel
theorem dX8_least_14 : decode cX8_least 14 = .ok (.getfield 54, 3) := by decide +kernel
theorem dX8_least_17 : decode cX8_least 17 = .ok (.invokevirtual 194, 3) := by decide +kernel
theorem dX8_least_20 : decode cX8_least 20 = .ok (.aload_n 0, 1) := by decide +kernel
theorem dX8_least_21 : decode cX8_least 21 = .ok (.getfield 54, 3) := by decide +kernel
theorem dX8_least_24 : decode cX8_least 24 = .ok (.getfield 217, 3) := by decide +kernel
theorem dX8_least_27 : decode cX8_least 27 = .ok (.ireturn, 1) := by decide +kernel
theorem dX8_order_0 : decode cX8_order 0 = .ok (.iload_n 1, 1) := by decide +kernel
theorem dX8_order_1 : decode cX8_order 1 = .ok (.invokestatic 145, 3) := by decide +kernel
theorem dX8_order_4 : decode cX8_order 4 = .ok (.ifCond .eq 17, 3) := by decide +kernel
theorem dX8_order_7 : decode cX8_order 7 = .ok (.aload_n 0, 1) := by decide +kernel
theorem dX8_order_8 : decode cX8_order 8 = .ok (.getfield 33, 3) := by decide +kernel
theorem dX8_order_11 : decode cX8_order 11 = .ok (.iload_n 2, 1) := by decide +kernel
theorem dX8_order_12 : decode cX8_order 12 = .ok (.sipush 256, 3) := by decide +kernel
theorem dX8_order_15 : decode cX8_order 15 = .ok (.invokevirtual 220, 3) := by decide +kernel
theorem dX8_order_18 : decode cX8_order 18 = .ok (.ifCond .ne 5, 3) := by decide +kernel
theorem dX8_order_21 : decode cX8_order 21 = .ok (.iconst (-1), 1) := by decide +kernel
theorem dX8_order_22 : decode cX8_order 22 = .ok (.ireturn, 1) := by decide +kernel
theorem dX8_order_23 : decode cX8_order 23 = .ok (.aload_n 0, 1) := by decide +kernel
theorem dX8_order_24 : decode cX8_order 24 = .ok (.getfield 33, 3) := by decide +kernel
theorem dX8_order_27 : decode cX8_order 27 = .ok (.getfield 139, 3) := by decide +kernel
theorem dX8_order_30 : decode cX8_order 30 = .ok (.ifCond .ne 6, 3) := by decide +kernel
theorem dX8_order_33 : decode cX8_order 33 = .ok (.bipush (-5), 2) := by decide +kernel
theorem dX8_order_35 : decode cX8_order 35 = .ok (.ireturn, 1) := by decide +kernel
theorem dX8_order_36 : decode cX8_order 36 = .ok (.aload_n 0, 1) := by decide +kernel
theorem dX8_order_37 : decode cX8_order 37 = .ok (.aload_n 0, 1) := by decide +kernel
theorem dX8_order_38 : decode cX8_order 38 = .ok (.getfield 17, 3) := by decide +kernel
theorem dX8_order_41 : decode cX8_order 41 = .ok (.iload_n 1, 1) := by decide +kernel
theorem dX8_order_42 : decode cX8_order 42 = .ok (.aaload, 1) := by decide +kernel
theorem dX8_order_43 : decode cX8_order 43 = .ok (.invokevirtual 172, 3) := by decide +kernel
theorem dX8_order_46 : decode cX8_order 46 = .ok (.ifCond .ne 6, 3) := by decide +kernel
theorem dX8_order_49 : decode cX8_order 49 = .ok (.bipush (-6), 2) := by decide +kernel
theorem dX8_order_51 : decode cX8_order 51 = .ok (.ireturn, 1) := by decide +kernel
theorem dX8_order_52 : decode cX8_order 52 = .ok (.aload_n 0, 1) := by decide +kernel
theorem dX8_order_53 : decode cX8_order 53 = .ok (.getfield 40, 3) := by decide +kernel
theorem dX8_order_56 : decode cX8_order 56 = .ok (.aload_n 0, 1) := by decide +kernel
theorem dX8_order_57 : decode cX8_order 57 = .ok (.getfield 33, 3) := by decide +kernel
theorem dX8_order_60 : decode cX8_order 60 = .ok (.iload_n 2, 1) := by decide +kernel
theorem dX8_order_61 : decode cX8_order 61 = .ok (.invokevirtual 223, 3) := by decide +kernel
theorem dX8_order_64 : decode cX8_order 64 = .ok (.aload_n 0, 1) := by decide +kernel
theorem dX8_order_65 : decode cX8_order 65 = .ok (.getfield 40, 3) := by decide +kernel
theorem dX8_order_68 : decode cX8_order 68 = .ok (.aload_n 0, 1) := by decide +kernel
theorem dX8_order_69 : decode cX8_order 69 = .ok (.getfield 17, 3) := by decide +kernel
theorem dX8_order_72 : decode cX8_order 72 = .ok (.iload_n 1, 1) := by decide +kernel
theorem dX8_order_73 : decode cX8_order 73 = .ok (.aaload, 1) := by decide +kernel
theorem dX8_order_74 : decode cX8_order 74 = .ok (.iload_n 2, 1) := by decide +kernel
theorem dX8_order_75 : decode cX8_order 75 = .ok (.invokevirtual 227, 3) := by decide +kernel
theorem dX8_order_78 : decode cX8_order 78 = .ok (.ireturn, 1) := by decide +kernel
theorem dX8_orbits_0 : decode cX8_orbits 0 = .ok (.aload_n 0, 1) := by decide +kernel
theorem dX8_orbits_1 : decode cX8_orbits 1 = .ok (.getfield 33, 3) := by decide +kernel
theorem dX8_orbits_4 : decode cX8_orbits 4 = .ok (.iload_n 1, 1) := by decide +kernel
theorem dX8_orbits_5 : decode cX8_orbits 5 = .ok (.sipush 256, 3) := by decide +kernel
theorem dX8_orbits_8 : decode cX8_orbits 8 = .ok (.invokevirtual 220, 3) := by decide +kernel
theorem dX8_orbits_11 : decode cX8_orbits 11 = .ok (.ifCond .ne 5, 3) := by decide +kernel
theorem dX8_orbits_14 : decode cX8_orbits 14 = .ok (.iconst (-1), 1) := by decide +kernel
theorem dX8_orbits_15 : decode cX8_orbits 15 = .ok (.ireturn, 1) := by decide +kernel
theorem dX8_orbits_16 : decode cX8_orbits 16 = .ok (.aload_n 0, 1) := by decide +kernel
theorem dX8_orbits_17 : decode cX8_orbits 17 = .ok (.getfield 33, 3) := by decide +kernel
theorem dX8_orbits_20 : decode cX8_orbits 20 = .ok (.getfield 139, 3) := by decide +kernel
theorem dX8_orbits_23 : decode cX8_orbits 23 = .ok (.ifCond .ne 6, 3) := by decide +kernel
theorem dX8_orbits_26 : decode cX8_orbits 26 = .ok (.bipush (-5), 2) := by decide +kernel
theorem dX8_orbits_28 : decode cX8_orbits 28 = .ok (.ireturn, 1) := by decide +kernel
theorem dX8_orbits_29 : decode cX8_orbits 29 = .ok (.aload_n 0, 1) := by decide +kernel
theorem dX8_orbits_30 : decode cX8_orbits 30 = .ok (.getfield 40, 3) := by decide +kernel
theorem dX8_orbits_33 : decode cX8_orbits 33 = .ok (.aload_n 0, 1) := by decide +kernel
theorem dX8_orbits_34 : decode cX8_orbits 34 = .ok (.getfield 33, 3) := by decide +kernel
theorem dX8_orbits_37 : decode cX8_orbits 37 = .ok (.iload_n 1, 1) := by decide +kernel
theorem dX8_orbits_38 : decode cX8_orbits 38 = .ok (.invokevirtual 223, 3) := by decide +kernel
theorem dX8_orbits_41 : decode cX8_orbits 41 = .ok (.aload_n 0, 1) := by decide +kernel
theorem dX8_orbits_42 : decode cX8_orbits 42 = .ok (.getfield 40, 3) := by decide +kernel
theorem dX8_orbits_45 : decode cX8_orbits 45 = .ok (.aload_n 0, 1) := by decide +kernel
theorem dX8_orbits_46 : decode cX8_orbits 46 = .ok (.getfield 33, 3) := by decide +kernel
theorem dX8_orbits_49 : decode cX8_orbits 49 = .ok (.iload_n 1, 1) := by decide +kernel
theorem dX8_orbits_50 : decode cX8_orbits 50 = .ok (.invokevirtual 230, 3) := by decide +kernel
theorem dX8_orbits_53 : decode cX8_orbits 53 = .ok (.ireturn, 1) := by decide +kernel
theorem dX8_orbit_0 : decode cX8_orbit 0 = .ok (.aload_n 0, 1) := by decide +kernel
theorem dX8_orbit_1 : decode cX8_orbit 1 = .ok (.iload_n 1, 1) := by decide +kernel
theorem dX8_orbit_2 : decode cX8_orbit 2 = .ok (.invokevirtual 234, 3) := by decide +kernel
theorem dX8_orbit_5 : decode cX8_orbit 5 = .ok (.istore_n 2, 1) := by decide +kernel
theorem dX8_orbit_6 : decode cX8_orbit 6 = .ok (.iload_n 2, 1) := by decide +kernel
theorem dX8_orbit_7 : decode cX8_orbit 7 = .ok (.ifCond .ge 5, 3) := by decide +kernel
theorem dX8_orbit_10 : decode cX8_orbit 10 = .ok (.iconst (-1), 1) := by decide +kernel
theorem dX8_orbit_11 : decode cX8_orbit 11 = .ok (.ireturn, 1) := by decide +kernel
theorem dX8_orbit_12 : decode cX8_orbit 12 = .ok (.aload_n 0, 1) := by decide +kernel
theorem dX8_orbit_13 : decode cX8_orbit 13 = .ok (.getfield 33, 3) := by decide +kernel
theorem dX8_orbit_16 : decode cX8_orbit 16 = .ok (.getfield 139, 3) := by decide +kernel
theorem dX8_orbit_19 : decode cX8_orbit 19 = .ok (.ifCond .ne 6, 3) := by decide +kernel
theorem dX8_orbit_22 : decode cX8_orbit 22 = .ok (.bipush (-5), 2) := by decide +kernel
theorem dX8_orbit_24 : decode cX8_orbit 24 = .ok (.ireturn, 1) := by decide +kernel
theorem dX8_orbit_25 : decode cX8_orbit 25 = .ok (.aload_n 0, 1) := by decide +kernel
theorem dX8_orbit_26 : decode cX8_orbit 26 = .ok (.iload_n 1, 1) := by decide +kernel
theorem dX8_orbit_27 : decode cX8_orbit 27 = .ok (.iload_n 2, 1) := by decide +kernel
theorem dX8_orbit_28 : decode cX8_orbit 28 = .ok (.invokevirtual 237, 3) := by decide +kernel
theorem dX8_orbit_31 : decode cX8_orbit 31 = .ok (.ireturn, 1) := by decide +kernel
theorem dX8_far_0 : decode cX8_far 0 = .ok (.aload_n 0, 1) := by decide +kernel
theorem dX8_far_1 : decode cX8_far 1 = .ok (.iload_n 1, 1) := by decide +kernel
theorem dX8_far_2 : decode cX8_far 2 = .ok (.invokevirtual 234, 3) := by decide +kernel
theorem dX8_far_5 : decode cX8_far 5 = .ok (.istore_n 3, 1) := by decide +kernel
theorem dX8_far_6 : decode cX8_far 6 = .ok (.iload_n 3, 1) := by decide +kernel
theorem dX8_far_7 : decode cX8_far 7 = .ok (.ifCond .lt 15, 3) := by decide +kernel
theorem dX8_far_10 : decode cX8_far 10 = .ok (.aload_n 0, 1) := by decide +kernel
theorem dX8_far_11 : decode cX8_far 11 = .ok (.getfield 33, 3) := by decide +kernel
theorem dX8_far_14 : decode cX8_far 14 = .ok (.iload_n 2, 1) := by decide +kernel
theorem dX8_far_15 : decode cX8_far 15 = .ok (.invokevirtual 179, 3) := by decide +kernel
theorem dX8_far_18 : decode cX8_far 18 = .ok (.iload_n 3, 1) := by decide +kernel
theorem dX8_far_19 : decode cX8_far 19 = .ok (.if_icmp .eq 5, 3) := by decide +kernel
theorem dX8_far_22 : decode cX8_far 22 = .ok (.iconst (-1), 1) := by decide +kernel
theorem dX8_far_23 : decode cX8_far 23 = .ok (.ireturn, 1) := by decide +kernel
theorem dX8_far_24 : decode cX8_far 24 = .ok (.aload_n 0, 1) := by decide +kernel
theorem dX8_far_25 : decode cX8_far 25 = .ok (.getfield 33, 3) := by decide +kernel
theorem dX8_far_28 : decode cX8_far 28 = .ok (.getfield 139, 3) := by decide +kernel
theorem dX8_far_31 : decode cX8_far 31 = .ok (.ifCond .ne 6, 3) := by decide +kernel
theorem dX8_far_34 : decode cX8_far 34 = .ok (.bipush (-5), 2) := by decide +kernel
theorem dX8_far_36 : decode cX8_far 36 = .ok (.ireturn, 1) := by decide +kernel
theorem dX8_far_37 : decode cX8_far 37 = .ok (.aload_n 0, 1) := by decide +kernel
theorem dX8_far_38 : decode cX8_far 38 = .ok (.iload_n 1, 1) := by decide +kernel
theorem dX8_far_39 : decode cX8_far 39 = .ok (.iload_n 3, 1) := by decide +kernel
theorem dX8_far_40 : decode cX8_far 40 = .ok (.invokevirtual 237, 3) := by decide +kernel
theorem dX8_far_43 : decode cX8_far 43 = .ok (.pop, 1) := by decide +kernel
theorem dX8_far_44 : decode cX8_far 44 = .ok (.aload_n 0, 1) := by decide +kernel
theorem dX8_far_45 : decode cX8_far 45 = .ok (.getfield 40, 3) := by decide +kernel
theorem dX8_far_48 : decode cX8_far 48 = .ok (.getfield 240, 3) := by decide +kernel
theorem dX8_far_51 : decode cX8_far 51 = .ok (.aload_n 0, 1) := by decide +kernel
theorem dX8_far_52 : decode cX8_far 52 = .ok (.getfield 33, 3) := by decide +kernel
theorem dX8_far_55 : decode cX8_far 55 = .ok (.iload_n 2, 1) := by decide +kernel
theorem dX8_far_56 : decode cX8_far 56 = .ok (.iload_n 3, 1) := by decide +kernel
theorem dX8_far_57 : decode cX8_far 57 = .ok (.invokevirtual 243, 3) := by decide +kernel
theorem dX8_far_60 : decode cX8_far 60 = .ok (.iaload, 1) := by decide +kernel
theorem dX8_far_61 : decode cX8_far 61 = .ok (.istore 4, 2) := by decide +kernel
theorem dX8_far_63 : decode cX8_far 63 = .ok (.iload 4, 2) := by decide +kernel
theorem dX8_far_65 : decode cX8_far 65 = .ok (.ifCond .ge 8, 3) := by decide +kernel
theorem dX8_far_68 : decode cX8_far 68 = .ok (.bipush (-8), 2) := by decide +kernel
theorem dX8_far_70 : decode cX8_far 70 = .ok (.goto 5, 3) := by decide +kernel
theorem dX8_far_73 : decode cX8_far 73 = .ok (.iload 4, 2) := by decide +kernel
theorem dX8_far_75 : decode cX8_far 75 = .ok (.ireturn, 1) := by decide +kernel
theorem dX8_way_0 : decode cX8_way 0 = .ok (.aload_n 0, 1) := by decide +kernel
theorem dX8_way_1 : decode cX8_way 1 = .ok (.iload_n 1, 1) := by decide +kernel
theorem dX8_way_2 : decode cX8_way 2 = .ok (.iload_n 2, 1) := by decide +kernel
theorem dX8_way_3 : decode cX8_way 3 = .ok (.invokevirtual 246, 3) := by decide +kernel
theorem dX8_way_6 : decode cX8_way 6 = .ok (.istore 4, 2) := by decide +kernel
theorem dX8_way_8 : decode cX8_way 8 = .ok (.iload_n 3, 1) := by decide +kernel
theorem dX8_way_9 : decode cX8_way 9 = .ok (.ifCond .lt 9, 3) := by decide +kernel
theorem dX8_way_12 : decode cX8_way 12 = .ok (.iload_n 3, 1) := by decide +kernel
theorem dX8_way_13 : decode cX8_way 13 = .ok (.iload 4, 2) := by decide +kernel
theorem dX8_way_15 : decode cX8_way 15 = .ok (.if_icmp .lt 5, 3) := by decide +kernel
theorem dX8_way_18 : decode cX8_way 18 = .ok (.iconst 0, 1) := by decide +kernel
theorem dX8_way_19 : decode cX8_way 19 = .ok (.ireturn, 1) := by decide +kernel
theorem dX8_way_20 : decode cX8_way 20 = .ok (.aload_n 0, 1) := by decide +kernel
theorem dX8_way_21 : decode cX8_way 21 = .ok (.getfield 33, 3) := by decide +kernel
theorem dX8_way_24 : decode cX8_way 24 = .ok (.iload_n 2, 1) := by decide +kernel
theorem dX8_way_25 : decode cX8_way 25 = .ok (.aload_n 0, 1) := by decide +kernel
theorem dX8_way_26 : decode cX8_way 26 = .ok (.getfield 33, 3) := by decide +kernel
theorem dX8_way_29 : decode cX8_way 29 = .ok (.iload_n 2, 1) := by decide +kernel
theorem dX8_way_30 : decode cX8_way 30 = .ok (.invokevirtual 179, 3) := by decide +kernel
theorem dX8_way_33 : decode cX8_way 33 = .ok (.invokevirtual 243, 3) := by decide +kernel
theorem dX8_way_36 : decode cX8_way 36 = .ok (.istore 5, 2) := by decide +kernel
theorem dX8_way_38 : decode cX8_way 38 = .ok (.aload_n 0, 1) := by decide +kernel
theorem dX8_way_39 : decode cX8_way 39 = .ok (.getfield 40, 3) := by decide +kernel
theorem dX8_way_42 : decode cX8_way 42 = .ok (.iload 5, 2) := by decide +kernel
theorem dX8_way_44 : decode cX8_way 44 = .ok (.iload 4, 2) := by decide +kernel
theorem dX8_way_46 : decode cX8_way 46 = .ok (.iload_n 3, 1) := by decide +kernel
theorem dX8_way_47 : decode cX8_way 47 = .ok (.invokevirtual 249, 3) := by decide +kernel
theorem dX8_way_50 : decode cX8_way 50 = .ok (.invokestatic 169, 3) := by decide +kernel
theorem dX8_way_53 : decode cX8_way 53 = .ok (.ireturn, 1) := by decide +kernel
theorem dX8_reach_0 : decode cX8_reach 0 = .ok (.aload_n 0, 1) := by decide +kernel
theorem dX8_reach_1 : decode cX8_reach 1 = .ok (.iload_n 1, 1) := by decide +kernel
theorem dX8_reach_2 : decode cX8_reach 2 = .ok (.invokevirtual 234, 3) := by decide +kernel
theorem dX8_reach_5 : decode cX8_reach 5 = .ok (.istore_n 2, 1) := by decide +kernel
theorem dX8_reach_6 : decode cX8_reach 6 = .ok (.iload_n 2, 1) := by decide +kernel
theorem dX8_reach_7 : decode cX8_reach 7 = .ok (.ifCond .ge 5, 3) := by decide +kernel
theorem dX8_reach_10 : decode cX8_reach 10 = .ok (.iconst (-1), 1) := by decide +kernel
theorem dX8_reach_11 : decode cX8_reach 11 = .ok (.ireturn, 1) := by decide +kernel
theorem dX8_reach_12 : decode cX8_reach 12 = .ok (.aload_n 0, 1) := by decide +kernel
theorem dX8_reach_13 : decode cX8_reach 13 = .ok (.getfield 33, 3) := by decide +kernel
theorem dX8_reach_16 : decode cX8_reach 16 = .ok (.getfield 139, 3) := by decide +kernel
theorem dX8_reach_19 : decode cX8_reach 19 = .ok (.ifCond .ne 6, 3) := by decide +kernel
theorem dX8_reach_22 : decode cX8_reach 22 = .ok (.bipush (-5), 2) := by decide +kernel
theorem dX8_reach_24 : decode cX8_reach 24 = .ok (.ireturn, 1) := by decide +kernel
theorem dX8_reach_25 : decode cX8_reach 25 = .ok (.aload_n 0, 1) := by decide +kernel
theorem dX8_reach_26 : decode cX8_reach 26 = .ok (.iload_n 1, 1) := by decide +kernel
theorem dX8_reach_27 : decode cX8_reach 27 = .ok (.iload_n 2, 1) := by decide +kernel
theorem dX8_reach_28 : decode cX8_reach 28 = .ok (.invokevirtual 237, 3) := by decide +kernel
theorem dX8_reach_31 : decode cX8_reach 31 = .ok (.istore_n 3, 1) := by decide +kernel
theorem dX8_reach_32 : decode cX8_reach 32 = .ok (.aload_n 0, 1) := by decide +kernel
theorem dX8_reach_33 : decode cX8_reach 33 = .ok (.getfield 40, 3) := by decide +kernel
theorem dX8_reach_36 : decode cX8_reach 36 = .ok (.getfield 240, 3) := by decide +kernel
theorem dX8_reach_39 : decode cX8_reach 39 = .ok (.aload_n 0, 1) := by decide +kernel
theorem dX8_reach_40 : decode cX8_reach 40 = .ok (.getfield 40, 3) := by decide +kernel
theorem dX8_reach_43 : decode cX8_reach 43 = .ok (.getfield 253, 3) := by decide +kernel
theorem dX8_reach_46 : decode cX8_reach 46 = .ok (.iload_n 3, 1) := by decide +kernel
theorem dX8_reach_47 : decode cX8_reach 47 = .ok (.iconst 1, 1) := by decide +kernel
theorem dX8_reach_48 : decode cX8_reach 48 = .ok (.isub, 1) := by decide +kernel
theorem dX8_reach_49 : decode cX8_reach 49 = .ok (.iaload, 1) := by decide +kernel
theorem dX8_reach_50 : decode cX8_reach 50 = .ok (.iaload, 1) := by decide +kernel
theorem dX8_reach_51 : decode cX8_reach 51 = .ok (.ireturn, 1) := by decide +kernel
theorem dX8_group_0 : decode cX8_group 0 = .ok (.aload_n 0, 1) := by decide +kernel
theorem dX8_group_1 : decode cX8_group 1 = .ok (.getfield 33, 3) := by decide +kernel
theorem dX8_group_4 : decode cX8_group 4 = .ok (.iload_n 1, 1) := by decide +kernel
theorem dX8_group_5 : decode cX8_group 5 = .ok (.bipush 16, 2) := by decide +kernel
theorem dX8_group_7 : decode cX8_group 7 = .ok (.invokevirtual 220, 3) := by decide +kernel
theorem dX8_group_10 : decode cX8_group 10 = .ok (.istore_n 2, 1) := by decide +kernel
theorem dX8_group_11 : decode cX8_group 11 = .ok (.iload_n 2, 1) := by decide +kernel
theorem dX8_group_12 : decode cX8_group 12 = .ok (.ifCond .ne 5, 3) := by decide +kernel
theorem dX8_group_15 : decode cX8_group 15 = .ok (.iconst (-1), 1) := by decide +kernel
theorem dX8_group_16 : decode cX8_group 16 = .ok (.ireturn, 1) := by decide +kernel
theorem dX8_group_17 : decode cX8_group 17 = .ok (.aload_n 0, 1) := by decide +kernel
theorem dX8_group_18 : decode cX8_group 18 = .ok (.getfield 33, 3) := by decide +kernel
theorem dX8_group_21 : decode cX8_group 21 = .ok (.getfield 139, 3) := by decide +kernel
theorem dX8_group_24 : decode cX8_group 24 = .ok (.ifCond .ne 6, 3) := by decide +kernel
theorem dX8_group_27 : decode cX8_group 27 = .ok (.bipush (-5), 2) := by decide +kernel
theorem dX8_group_29 : decode cX8_group 29 = .ok (.ireturn, 1) := by decide +kernel
theorem dX8_group_30 : decode cX8_group 30 = .ok (.aload_n 0, 1) := by decide +kernel
theorem dX8_group_31 : decode cX8_group 31 = .ok (.getfield 40, 3) := by decide +kernel
theorem dX8_group_34 : decode cX8_group 34 = .ok (.aload_n 0, 1) := by decide +kernel
theorem dX8_group_35 : decode cX8_group 35 = .ok (.getfield 33, 3) := by decide +kernel
theorem dX8_group_38 : decode cX8_group 38 = .ok (.iload_n 1, 1) := by decide +kernel
theorem dX8_group_39 : decode cX8_group 39 = .ok (.invokevirtual 223, 3) := by decide +kernel
theorem dX8_group_42 : decode cX8_group 42 = .ok (.aload_n 0, 1) := by decide +kernel
theorem dX8_group_43 : decode cX8_group 43 = .ok (.getfield 47, 3) := by decide +kernel
theorem dX8_group_46 : decode cX8_group 46 = .ok (.iload_n 2, 1) := by decide +kernel
theorem dX8_group_47 : decode cX8_group 47 = .ok (.invokevirtual 256, 3) := by decide +kernel
theorem dX8_group_50 : decode cX8_group 50 = .ok (.iconst 0, 1) := by decide +kernel
theorem dX8_group_51 : decode cX8_group 51 = .ok (.istore_n 3, 1) := by decide +kernel
theorem dX8_group_52 : decode cX8_group 52 = .ok (.iload_n 3, 1) := by decide +kernel
theorem dX8_group_53 : decode cX8_group 53 = .ok (.aload_n 0, 1) := by decide +kernel
theorem dX8_group_54 : decode cX8_group 54 = .ok (.getfield 33, 3) := by decide +kernel
theorem dX8_group_57 : decode cX8_group 57 = .ok (.getfield 102, 3) := by decide +kernel
theorem dX8_group_60 : decode cX8_group 60 = .ok (.if_icmp .ge 44, 3) := by decide +kernel
theorem dX8_group_63 : decode cX8_group 63 = .ok (.aload_n 0, 1) := by decide +kernel
theorem dX8_group_64 : decode cX8_group 64 = .ok (.getfield 33, 3) := by decide +kernel
theorem dX8_group_67 : decode cX8_group 67 = .ok (.iload_n 3, 1) := by decide +kernel
theorem dX8_group_68 : decode cX8_group 68 = .ok (.invokevirtual 127, 3) := by decide +kernel
theorem dX8_group_71 : decode cX8_group 71 = .ok (.ifCond .eq 27, 3) := by decide +kernel
theorem dX8_group_74 : decode cX8_group 74 = .ok (.aload_n 0, 1) := by decide +kernel
theorem dX8_group_75 : decode cX8_group 75 = .ok (.getfield 47, 3) := by decide +kernel
theorem dX8_group_78 : decode cX8_group 78 = .ok (.aload_n 0, 1) := by decide +kernel
theorem dX8_group_79 : decode cX8_group 79 = .ok (.getfield 40, 3) := by decide +kernel
theorem dX8_group_82 : decode cX8_group 82 = .ok (.iconst 2, 1) := by decide +kernel
theorem dX8_group_83 : decode cX8_group 83 = .ok (.iload_n 3, 1) := by decide +kernel
theorem dX8_group_84 : decode cX8_group 84 = .ok (.imul, 1) := by decide +kernel
theorem dX8_group_85 : decode cX8_group 85 = .ok (.iload_n 1, 1) := by decide +kernel
theorem dX8_group_86 : decode cX8_group 86 = .ok (.invokevirtual 259, 3) := by decide +kernel
theorem dX8_group_89 : decode cX8_group 89 = .ok (.invokevirtual 263, 3) := by decide +kernel
theorem dX8_group_92 : decode cX8_group 92 = .ok (.ifCond .ne 6, 3) := by decide +kernel
theorem dX8_group_95 : decode cX8_group 95 = .ok (.bipush (-7), 2) := by decide +kernel
theorem dX8_group_97 : decode cX8_group 97 = .ok (.ireturn, 1) := by decide +kernel
theorem dX8_group_98 : decode cX8_group 98 = .ok (.iinc 3 1, 3) := by decide +kernel
theorem dX8_group_101 : decode cX8_group 101 = .ok (.goto (-49), 3) := by decide +kernel
theorem dX8_group_104 : decode cX8_group 104 = .ok (.aload_n 0, 1) := by decide +kernel
theorem dX8_group_105 : decode cX8_group 105 = .ok (.getfield 47, 3) := by decide +kernel
theorem dX8_group_108 : decode cX8_group 108 = .ok (.getfield 267, 3) := by decide +kernel
theorem dX8_group_111 : decode cX8_group 111 = .ok (.getfield 212, 3) := by decide +kernel
theorem dX8_group_114 : decode cX8_group 114 = .ok (.ireturn, 1) := by decide +kernel
theorem dX8_growth_0 : decode cX8_growth 0 = .ok (.aload_n 0, 1) := by decide +kernel
theorem dX8_growth_1 : decode cX8_growth 1 = .ok (.getfield 61, 3) := by decide +kernel
theorem dX8_growth_4 : decode cX8_growth 4 = .ok (.aload_n 0, 1) := by decide +kernel
theorem dX8_growth_5 : decode cX8_growth 5 = .ok (.getfield 33, 3) := by decide +kernel
theorem dX8_growth_8 : decode cX8_growth 8 = .ok (.iload_n 1, 1) := by decide +kernel
theorem dX8_growth_9 : decode cX8_growth 9 = .ok (.invokevirtual 270, 3) := by decide +kernel
theorem dX8_growth_12 : decode cX8_growth 12 = .ok (.istore_n 2, 1) := by decide +kernel
theorem dX8_growth_13 : decode cX8_growth 13 = .ok (.iload_n 2, 1) := by decide +kernel
theorem dX8_growth_14 : decode cX8_growth 14 = .ok (.ifCond .ge 7, 3) := by decide +kernel
theorem dX8_growth_17 : decode cX8_growth 17 = .ok (.iload_n 2, 1) := by decide +kernel
theorem dX8_growth_18 : decode cX8_growth 18 = .ok (.goto 13, 3) := by decide +kernel
theorem dX8_growth_21 : decode cX8_growth 21 = .ok (.aload_n 0, 1) := by decide +kernel
theorem dX8_growth_22 : decode cX8_growth 22 = .ok (.getfield 61, 3) := by decide +kernel
theorem dX8_growth_25 : decode cX8_growth 25 = .ok (.getfield 273, 3) := by decide +kernel
theorem dX8_growth_28 : decode cX8_growth 28 = .ok (.getfield 217, 3) := by decide +kernel
theorem dX8_growth_31 : decode cX8_growth 31 = .ok (.ireturn, 1) := by decide +kernel
theorem dX8_laws_0 : decode cX8_laws 0 = .ok (.aload_n 0, 1) := by decide +kernel
theorem dX8_laws_1 : decode cX8_laws 1 = .ok (.getfield 61, 3) := by decide +kernel
theorem dX8_laws_4 : decode cX8_laws 4 = .ok (.aload_n 0, 1) := by decide +kernel
theorem dX8_laws_5 : decode cX8_laws 5 = .ok (.getfield 33, 3) := by decide +kernel
theorem dX8_laws_8 : decode cX8_laws 8 = .ok (.iload_n 1, 1) := by decide +kernel
theorem dX8_laws_9 : decode cX8_laws 9 = .ok (.invokevirtual 270, 3) := by decide +kernel
theorem dX8_laws_12 : decode cX8_laws 12 = .ok (.istore_n 2, 1) := by decide +kernel
theorem dX8_laws_13 : decode cX8_laws 13 = .ok (.iload_n 2, 1) := by decide +kernel
theorem dX8_laws_14 : decode cX8_laws 14 = .ok (.ifCond .ge 7, 3) := by decide +kernel
theorem dX8_laws_17 : decode cX8_laws 17 = .ok (.iload_n 2, 1) := by decide +kernel
theorem dX8_laws_18 : decode cX8_laws 18 = .ok (.goto 10, 3) := by decide +kernel
theorem dX8_laws_21 : decode cX8_laws 21 = .ok (.aload_n 0, 1) := by decide +kernel
theorem dX8_laws_22 : decode cX8_laws 22 = .ok (.getfield 61, 3) := by decide +kernel
theorem dX8_laws_25 : decode cX8_laws 25 = .ok (.invokevirtual 274, 3) := by decide +kernel
theorem dX8_laws_28 : decode cX8_laws 28 = .ok (.ireturn, 1) := by decide +kernel
theorem dX8_law_0 : decode cX8_law 0 = .ok (.iload_n 3, 1) := by decide +kernel
theorem dX8_law_1 : decode cX8_law 1 = .ok (.invokestatic 145, 3) := by decide +kernel
theorem dX8_law_4 : decode cX8_law 4 = .ok (.ifCond .ne 5, 3) := by decide +kernel
theorem dX8_law_7 : decode cX8_law 7 = .ok (.iconst (-1), 1) := by decide +kernel
theorem dX8_law_8 : decode cX8_law 8 = .ok (.ireturn, 1) := by decide +kernel
theorem dX8_law_9 : decode cX8_law 9 = .ok (.aload_n 0, 1) := by decide +kernel
theorem dX8_law_10 : decode cX8_law 10 = .ok (.getfield 61, 3) := by decide +kernel
theorem dX8_law_13 : decode cX8_law 13 = .ok (.aload_n 0, 1) := by decide +kernel
theorem dX8_law_14 : decode cX8_law 14 = .ok (.getfield 33, 3) := by decide +kernel
theorem dX8_law_17 : decode cX8_law 17 = .ok (.iload_n 1, 1) := by decide +kernel
theorem dX8_law_18 : decode cX8_law 18 = .ok (.invokevirtual 270, 3) := by decide +kernel
theorem dX8_law_21 : decode cX8_law 21 = .ok (.istore 4, 2) := by decide +kernel
theorem dX8_law_23 : decode cX8_law 23 = .ok (.iload 4, 2) := by decide +kernel
theorem dX8_law_25 : decode cX8_law 25 = .ok (.ifCond .ge 6, 3) := by decide +kernel
theorem dX8_law_28 : decode cX8_law 28 = .ok (.iload 4, 2) := by decide +kernel
theorem dX8_law_30 : decode cX8_law 30 = .ok (.ireturn, 1) := by decide +kernel
theorem dX8_law_31 : decode cX8_law 31 = .ok (.aload_n 0, 1) := by decide +kernel
theorem dX8_law_32 : decode cX8_law 32 = .ok (.getfield 61, 3) := by decide +kernel
theorem dX8_law_35 : decode cX8_law 35 = .ok (.iload_n 2, 1) := by decide +kernel
theorem dX8_law_36 : decode cX8_law 36 = .ok (.invokevirtual 277, 3) := by decide +kernel
theorem dX8_law_39 : decode cX8_law 39 = .ok (.istore 5, 2) := by decide +kernel
theorem dX8_law_41 : decode cX8_law 41 = .ok (.iload 5, 2) := by decide +kernel
theorem dX8_law_43 : decode cX8_law 43 = .ok (.ifCond .ge 6, 3) := by decide +kernel
theorem dX8_law_46 : decode cX8_law 46 = .ok (.bipush (-8), 2) := by decide +kernel
theorem dX8_law_48 : decode cX8_law 48 = .ok (.ireturn, 1) := by decide +kernel
theorem dX8_law_49 : decode cX8_law 49 = .ok (.aload_n 0, 1) := by decide +kernel
theorem dX8_law_50 : decode cX8_law 50 = .ok (.getfield 61, 3) := by decide +kernel
theorem dX8_law_53 : decode cX8_law 53 = .ok (.getfield 273, 3) := by decide +kernel
theorem dX8_law_56 : decode cX8_law 56 = .ok (.iload 5, 2) := by decide +kernel
theorem dX8_law_58 : decode cX8_law 58 = .ok (.aload_n 0, 1) := by decide +kernel
theorem dX8_law_59 : decode cX8_law 59 = .ok (.getfield 26, 3) := by decide +kernel
theorem dX8_law_62 : decode cX8_law 62 = .ok (.invokevirtual 280, 3) := by decide +kernel
theorem dX8_law_65 : decode cX8_law 65 = .ok (.aload_n 0, 1) := by decide +kernel
theorem dX8_law_66 : decode cX8_law 66 = .ok (.aload_n 0, 1) := by decide +kernel
theorem dX8_law_67 : decode cX8_law 67 = .ok (.getfield 26, 3) := by decide +kernel
theorem dX8_law_70 : decode cX8_law 70 = .ok (.iload_n 3, 1) := by decide +kernel
theorem dX8_law_71 : decode cX8_law 71 = .ok (.invokevirtual 175, 3) := by decide +kernel
theorem dX8_law_74 : decode cX8_law 74 = .ok (.ireturn, 1) := by decide +kernel
theorem dX8_fall_0 : decode cX8_fall 0 = .ok (.aload_n 0, 1) := by decide +kernel
theorem dX8_fall_1 : decode cX8_fall 1 = .ok (.getfield 61, 3) := by decide +kernel
theorem dX8_fall_4 : decode cX8_fall 4 = .ok (.aload_n 0, 1) := by decide +kernel
theorem dX8_fall_5 : decode cX8_fall 5 = .ok (.getfield 33, 3) := by decide +kernel
theorem dX8_fall_8 : decode cX8_fall 8 = .ok (.iload_n 1, 1) := by decide +kernel
theorem dX8_fall_9 : decode cX8_fall 9 = .ok (.invokevirtual 284, 3) := by decide +kernel
theorem dX8_fall_12 : decode cX8_fall 12 = .ok (.istore_n 2, 1) := by decide +kernel
theorem dX8_fall_13 : decode cX8_fall 13 = .ok (.iload_n 2, 1) := by decide +kernel
theorem dX8_fall_14 : decode cX8_fall 14 = .ok (.ifCond .ge 7, 3) := by decide +kernel
theorem dX8_fall_17 : decode cX8_fall 17 = .ok (.iload_n 2, 1) := by decide +kernel
theorem dX8_fall_18 : decode cX8_fall 18 = .ok (.goto 10, 3) := by decide +kernel
theorem dX8_fall_21 : decode cX8_fall 21 = .ok (.aload_n 0, 1) := by decide +kernel
theorem dX8_fall_22 : decode cX8_fall 22 = .ok (.getfield 61, 3) := by decide +kernel
theorem dX8_fall_25 : decode cX8_fall 25 = .ok (.getfield 287, 3) := by decide +kernel
theorem dX8_fall_28 : decode cX8_fall 28 = .ok (.ireturn, 1) := by decide +kernel
theorem dX8_fallen_0 : decode cX8_fallen 0 = .ok (.iload_n 3, 1) := by decide +kernel
theorem dX8_fallen_1 : decode cX8_fallen 1 = .ok (.invokestatic 145, 3) := by decide +kernel
theorem dX8_fallen_4 : decode cX8_fallen 4 = .ok (.ifCond .ne 5, 3) := by decide +kernel
theorem dX8_fallen_7 : decode cX8_fallen 7 = .ok (.iconst (-1), 1) := by decide +kernel
theorem dX8_fallen_8 : decode cX8_fallen 8 = .ok (.ireturn, 1) := by decide +kernel
theorem dX8_fallen_9 : decode cX8_fallen 9 = .ok (.aload_n 0, 1) := by decide +kernel
theorem dX8_fallen_10 : decode cX8_fallen 10 = .ok (.getfield 61, 3) := by decide +kernel
theorem dX8_fallen_13 : decode cX8_fallen 13 = .ok (.aload_n 0, 1) := by decide +kernel
theorem dX8_fallen_14 : decode cX8_fallen 14 = .ok (.getfield 33, 3) := by decide +kernel
theorem dX8_fallen_17 : decode cX8_fallen 17 = .ok (.iload_n 1, 1) := by decide +kernel
theorem dX8_fallen_18 : decode cX8_fallen 18 = .ok (.invokevirtual 284, 3) := by decide +kernel
theorem dX8_fallen_21 : decode cX8_fallen 21 = .ok (.istore 4, 2) := by decide +kernel
theorem dX8_fallen_23 : decode cX8_fallen 23 = .ok (.iload 4, 2) := by decide +kernel
theorem dX8_fallen_25 : decode cX8_fallen 25 = .ok (.ifCond .ge 6, 3) := by decide +kernel
theorem dX8_fallen_28 : decode cX8_fallen 28 = .ok (.iload 4, 2) := by decide +kernel
theorem dX8_fallen_30 : decode cX8_fallen 30 = .ok (.ireturn, 1) := by decide +kernel
theorem dX8_fallen_31 : decode cX8_fallen 31 = .ok (.iload_n 2, 1) := by decide +kernel
theorem dX8_fallen_32 : decode cX8_fallen 32 = .ok (.ifCond .lt 14, 3) := by decide +kernel
theorem dX8_fallen_35 : decode cX8_fallen 35 = .ok (.iload_n 2, 1) := by decide +kernel
theorem dX8_fallen_36 : decode cX8_fallen 36 = .ok (.aload_n 0, 1) := by decide +kernel
theorem dX8_fallen_37 : decode cX8_fallen 37 = .ok (.getfield 61, 3) := by decide +kernel
theorem dX8_fallen_40 : decode cX8_fallen 40 = .ok (.getfield 287, 3) := by decide +kernel
theorem dX8_fallen_43 : decode cX8_fallen 43 = .ok (.if_icmp .lt 6, 3) := by decide +kernel
theorem dX8_fallen_46 : decode cX8_fallen 46 = .ok (.bipush (-8), 2) := by decide +kernel
theorem dX8_fallen_48 : decode cX8_fallen 48 = .ok (.ireturn, 1) := by decide +kernel
theorem dX8_fallen_49 : decode cX8_fallen 49 = .ok (.aload_n 0, 1) := by decide +kernel
theorem dX8_fallen_50 : decode cX8_fallen 50 = .ok (.getfield 61, 3) := by decide +kernel
theorem dX8_fallen_53 : decode cX8_fallen 53 = .ok (.getfield 273, 3) := by decide +kernel
theorem dX8_fallen_56 : decode cX8_fallen 56 = .ok (.aload_n 0, 1) := by decide +kernel
theorem dX8_fallen_57 : decode cX8_fallen 57 = .ok (.getfield 61, 3) := by decide +kernel
theorem dX8_fallen_60 : decode cX8_fallen 60 = .ok (.getfield 290, 3) := by decide +kernel
theorem dX8_fallen_63 : decode cX8_fallen 63 = .ok (.iload_n 2, 1) := by decide +kernel
theorem dX8_fallen_64 : decode cX8_fallen 64 = .ok (.iaload, 1) := by decide +kernel
theorem dX8_fallen_65 : decode cX8_fallen 65 = .ok (.aload_n 0, 1) := by decide +kernel
theorem dX8_fallen_66 : decode cX8_fallen 66 = .ok (.getfield 26, 3) := by decide +kernel
theorem dX8_fallen_69 : decode cX8_fallen 69 = .ok (.invokevirtual 280, 3) := by decide +kernel
theorem dX8_fallen_72 : decode cX8_fallen 72 = .ok (.aload_n 0, 1) := by decide +kernel
theorem dX8_fallen_73 : decode cX8_fallen 73 = .ok (.aload_n 0, 1) := by decide +kernel
theorem dX8_fallen_74 : decode cX8_fallen 74 = .ok (.getfield 26, 3) := by decide +kernel
theorem dX8_fallen_77 : decode cX8_fallen 77 = .ok (.iload_n 3, 1) := by decide +kernel
theorem dX8_fallen_78 : decode cX8_fallen 78 = .ok (.invokevirtual 175, 3) := by decide +kernel
theorem dX8_fallen_81 : decode cX8_fallen 81 = .ok (.ireturn, 1) := by decide +kernel
theorem dX8_isSheet_0 : decode cX8_isSheet 0 = .ok (.iload_n 0, 1) := by decide +kernel
theorem dX8_isSheet_1 : decode cX8_isSheet 1 = .ok (.ifCond .lt 12, 3) := by decide +kernel
theorem dX8_isSheet_4 : decode cX8_isSheet 4 = .ok (.iload_n 0, 1) := by decide +kernel
theorem dX8_isSheet_5 : decode cX8_isSheet 5 = .ok (.iconst 4, 1) := by decide +kernel
theorem dX8_isSheet_6 : decode cX8_isSheet 6 = .ok (.if_icmp .ge 7, 3) := by decide +kernel
theorem dX8_isSheet_9 : decode cX8_isSheet 9 = .ok (.iconst 1, 1) := by decide +kernel
theorem dX8_isSheet_10 : decode cX8_isSheet 10 = .ok (.goto 4, 3) := by decide +kernel
theorem dX8_isSheet_13 : decode cX8_isSheet 13 = .ok (.iconst 0, 1) := by decide +kernel
theorem dX8_isSheet_14 : decode cX8_isSheet 14 = .ok (.ireturn, 1) := by decide +kernel
theorem dX8_isSpot_0 : decode cX8_isSpot 0 = .ok (.iload_n 0, 1) := by decide +kernel
theorem dX8_isSpot_1 : decode cX8_isSpot 1 = .ok (.ifCond .lt 13, 3) := by decide +kernel
theorem dX8_isSpot_4 : decode cX8_isSpot 4 = .ok (.iload_n 0, 1) := by decide +kernel
theorem dX8_isSpot_5 : decode cX8_isSpot 5 = .ok (.bipush 8, 2) := by decide +kernel
theorem dX8_isSpot_7 : decode cX8_isSpot 7 = .ok (.if_icmp .ge 7, 3) := by decide +kernel
theorem dX8_isSpot_10 : decode cX8_isSpot 10 = .ok (.iconst 1, 1) := by decide +kernel
theorem dX8_isSpot_11 : decode cX8_isSpot 11 = .ok (.goto 4, 3) := by decide +kernel
theorem dX8_isSpot_14 : decode cX8_isSpot 14 = .ok (.iconst 0, 1) := by decide +kernel
theorem dX8_isSpot_15 : decode cX8_isSpot 15 = .ok (.ireturn, 1) := by decide +kernel
theorem dX8_isGoal_0 : decode cX8_isGoal 0 = .ok (.iload_n 0, 1) := by decide +kernel
theorem dX8_isGoal_1 : decode cX8_isGoal 1 = .ok (.iconst (-1), 1) := by decide +kernel
theorem dX8_isGoal_2 : decode cX8_isGoal 2 = .ok (.if_icmp .lt 13, 3) := by decide +kernel
theorem dX8_isGoal_5 : decode cX8_isGoal 5 = .ok (.iload_n 0, 1) := by decide +kernel
theorem dX8_isGoal_6 : decode cX8_isGoal 6 = .ok (.bipush 8, 2) := by decide +kernel
theorem dX8_isGoal_8 : decode cX8_isGoal 8 = .ok (.if_icmp .ge 7, 3) := by decide +kernel
theorem dX8_isGoal_11 : decode cX8_isGoal 11 = .ok (.iconst 1, 1) := by decide +kernel
theorem dX8_isGoal_12 : decode cX8_isGoal 12 = .ok (.goto 4, 3) := by decide +kernel
theorem dX8_isGoal_15 : decode cX8_isGoal 15 = .ok (.iconst 0, 1) := by decide +kernel
theorem dX8_isGoal_16 : decode cX8_isGoal 16 = .ok (.ireturn, 1) := by decide +kernel
theorem dX8_markOf_0 : decode cX8_markOf 0 = .ok (.iload_n 0, 1) := by decide +kernel
theorem dX8_markOf_1 : decode cX8_markOf 1 = .ok (.ifCond .le 11, 3) := by decide +kernel
theorem dX8_markOf_4 : decode cX8_markOf 4 = .ok (.iconst 2, 1) := by decide +kernel
theorem dX8_markOf_5 : decode cX8_markOf 5 = .ok (.iload_n 0, 1) := by decide +kernel
theorem dX8_markOf_6 : decode cX8_markOf 6 = .ok (.iconst 1, 1) := by decide +kernel
theorem dX8_markOf_7 : decode cX8_markOf 7 = .ok (.isub, 1) := by decide +kernel
theorem dX8_markOf_8 : decode cX8_markOf 8 = .ok (.imul, 1) := by decide +kernel
theorem dX8_markOf_9 : decode cX8_markOf 9 = .ok (.goto 11, 3) := by decide +kernel
theorem dX8_markOf_12 : decode cX8_markOf 12 = .ok (.iconst 2, 1) := by decide +kernel
theorem dX8_markOf_13 : decode cX8_markOf 13 = .ok (.iload_n 0, 1) := by decide +kernel
theorem dX8_markOf_14 : decode cX8_markOf 14 = .ok (.ineg, 1) := by decide +kernel
theorem dX8_markOf_15 : decode cX8_markOf 15 = .ok (.iconst 1, 1) := by decide +kernel
theorem dX8_markOf_16 : decode cX8_markOf 16 = .ok (.isub, 1) := by decide +kernel
theorem dX8_markOf_17 : decode cX8_markOf 17 = .ok (.imul, 1) := by decide +kernel
theorem dX8_markOf_18 : decode cX8_markOf 18 = .ok (.iconst 1, 1) := by decide +kernel
theorem dX8_markOf_19 : decode cX8_markOf 19 = .ok (.iadd, 1) := by decide +kernel
theorem dX8_markOf_20 : decode cX8_markOf 20 = .ok (.ireturn, 1) := by decide +kernel
theorem dX8_tokenOf_0 : decode cX8_tokenOf 0 = .ok (.iload_n 0, 1) := by decide +kernel
theorem dX8_tokenOf_1 : decode cX8_tokenOf 1 = .ok (.iconst 1, 1) := by decide +kernel
theorem dX8_tokenOf_2 : decode cX8_tokenOf 2 = .ok (.ishr, 1) := by decide +kernel
theorem dX8_tokenOf_3 : decode cX8_tokenOf 3 = .ok (.iconst 1, 1) := by decide +kernel
theorem dX8_tokenOf_4 : decode cX8_tokenOf 4 = .ok (.iadd, 1) := by decide +kernel
theorem dX8_tokenOf_5 : decode cX8_tokenOf 5 = .ok (.istore_n 1, 1) := by decide +kernel
theorem dX8_tokenOf_6 : decode cX8_tokenOf 6 = .ok (.iload_n 0, 1) := by decide +kernel
theorem dX8_tokenOf_7 : decode cX8_tokenOf 7 = .ok (.iconst 1, 1) := by decide +kernel
theorem dX8_tokenOf_8 : decode cX8_tokenOf 8 = .ok (.iand, 1) := by decide +kernel
theorem dX8_tokenOf_9 : decode cX8_tokenOf 9 = .ok (.ifCond .ne 7, 3) := by decide +kernel
theorem dX8_tokenOf_12 : decode cX8_tokenOf 12 = .ok (.iload_n 1, 1) := by decide +kernel
theorem dX8_tokenOf_13 : decode cX8_tokenOf 13 = .ok (.goto 5, 3) := by decide +kernel
theorem dX8_tokenOf_16 : decode cX8_tokenOf 16 = .ok (.iload_n 1, 1) := by decide +kernel
theorem dX8_tokenOf_17 : decode cX8_tokenOf 17 = .ok (.ineg, 1) := by decide +kernel
theorem dX8_tokenOf_18 : decode cX8_tokenOf 18 = .ok (.ireturn, 1) := by decide +kernel
theorem dX8_forgetAnswers_0 : decode cX8_forgetAnswers 0 = .ok (.aload_n 0, 1) := by decide +kernel
theorem dX8_forgetAnswers_1 : decode cX8_forgetAnswers 1 = .ok (.getfield 40, 3) := by decide +kernel
theorem dX8_forgetAnswers_4 : decode cX8_forgetAnswers 4 = .ok (.invokevirtual 293, 3) := by decide +kernel
theorem dX8_forgetAnswers_7 : decode cX8_forgetAnswers 7 = .ok (.aload_n 0, 1) := by decide +kernel
theorem dX8_forgetAnswers_8 : decode cX8_forgetAnswers 8 = .ok (.getfield 61, 3) := by decide +kernel
theorem dX8_forgetAnswers_11 : decode cX8_forgetAnswers 11 = .ok (.invokevirtual 296, 3) := by decide +kernel
theorem dX8_forgetAnswers_14 : decode cX8_forgetAnswers 14 = .ok (.return_, 1) := by decide +kernel
theorem dX8_hasLostWayBack_0 : decode cX8_hasLostWayBack 0 = .ok (.iconst 0, 1) := by decide +kernel
theorem dX8_hasLostWayBack_1 : decode cX8_hasLostWayBack 1 = .ok (.istore_n 2, 1) := by decide +kernel
theorem dX8_hasLostWayBack_2 : decode cX8_hasLostWayBack 2 = .ok (.iload_n 2, 1) := by decide +kernel
theorem dX8_hasLostWayBack_3 : decode cX8_hasLostWayBack 3 = .ok (.aload_n 1, 1) := by decide +kernel
theorem dX8_hasLostWayBack_4 : decode cX8_hasLostWayBack 4 = .ok (.getfield 163, 3) := by decide +kernel
theorem dX8_hasLostWayBack_7 : decode cX8_hasLostWayBack 7 = .ok (.if_icmp .ge 37, 3) := by decide +kernel
theorem dX8_hasLostWayBack_10 : decode cX8_hasLostWayBack 10 = .ok (.aload_n 1, 1) := by decide +kernel
theorem dX8_hasLostWayBack_11 : decode cX8_hasLostWayBack 11 = .ok (.iload_n 2, 1) := by decide +kernel
theorem dX8_hasLostWayBack_12 : decode cX8_hasLostWayBack 12 = .ok (.invokevirtual 166, 3) := by decide +kernel
theorem dX8_hasLostWayBack_15 : decode cX8_hasLostWayBack 15 = .ok (.istore_n 3, 1) := by decide +kernel
theorem dX8_hasLostWayBack_16 : decode cX8_hasLostWayBack 16 = .ok (.iload_n 3, 1) := by decide +kernel
theorem dX8_hasLostWayBack_17 : decode cX8_hasLostWayBack 17 = .ok (.iconst 1, 1) := by decide +kernel
theorem dX8_hasLostWayBack_18 : decode cX8_hasLostWayBack 18 = .ok (.iand, 1) := by decide +kernel
theorem dX8_hasLostWayBack_19 : decode cX8_hasLostWayBack 19 = .ok (.iconst 1, 1) := by decide +kernel
theorem dX8_hasLostWayBack_20 : decode cX8_hasLostWayBack 20 = .ok (.if_icmp .ne 18, 3) := by decide +kernel
theorem dX8_hasLostWayBack_23 : decode cX8_hasLostWayBack 23 = .ok (.aload_n 0, 1) := by decide +kernel
theorem dX8_hasLostWayBack_24 : decode cX8_hasLostWayBack 24 = .ok (.getfield 33, 3) := by decide +kernel
theorem dX8_hasLostWayBack_27 : decode cX8_hasLostWayBack 27 = .ok (.iload_n 3, 1) := by decide +kernel
theorem dX8_hasLostWayBack_28 : decode cX8_hasLostWayBack 28 = .ok (.iconst 1, 1) := by decide +kernel
theorem dX8_hasLostWayBack_29 : decode cX8_hasLostWayBack 29 = .ok (.ishr, 1) := by decide +kernel
theorem dX8_hasLostWayBack_30 : decode cX8_hasLostWayBack 30 = .ok (.invokevirtual 127, 3) := by decide +kernel
theorem dX8_hasLostWayBack_33 : decode cX8_hasLostWayBack 33 = .ok (.ifCond .ne 5, 3) := by decide +kernel
theorem dX8_hasLostWayBack_36 : decode cX8_hasLostWayBack 36 = .ok (.iconst 1, 1) := by decide +kernel
theorem dX8_hasLostWayBack_37 : decode cX8_hasLostWayBack 37 = .ok (.ireturn, 1) := by decide +kernel
theorem dX8_hasLostWayBack_38 : decode cX8_hasLostWayBack 38 = .ok (.iinc 2 1, 3) := by decide +kernel
theorem dX8_hasLostWayBack_41 : decode cX8_hasLostWayBack 41 = .ok (.goto (-39), 3) := by decide +kernel
theorem dX8_hasLostWayBack_44 : decode cX8_hasLostWayBack 44 = .ok (.iconst 0, 1) := by decide +kernel
theorem dX8_hasLostWayBack_45 : decode cX8_hasLostWayBack 45 = .ok (.ireturn, 1) := by decide +kernel
theorem dX8_hasBackStates_0 : decode cX8_hasBackStates 0 = .ok (.iconst 0, 1) := by decide +kernel
theorem dX8_hasBackStates_1 : decode cX8_hasBackStates 1 = .ok (.istore_n 2, 1) := by decide +kernel
theorem dX8_hasBackStates_2 : decode cX8_hasBackStates 2 = .ok (.iload_n 2, 1) := by decide +kernel
theorem dX8_hasBackStates_3 : decode cX8_hasBackStates 3 = .ok (.aload_n 1, 1) := by decide +kernel
theorem dX8_hasBackStates_4 : decode cX8_hasBackStates 4 = .ok (.getfield 163, 3) := by decide +kernel
theorem dX8_hasBackStates_7 : decode cX8_hasBackStates 7 = .ok (.if_icmp .ge 28, 3) := by decide +kernel
theorem dX8_hasBackStates_10 : decode cX8_hasBackStates 10 = .ok (.aload_n 0, 1) := by decide +kernel
theorem dX8_hasBackStates_11 : decode cX8_hasBackStates 11 = .ok (.getfield 33, 3) := by decide +kernel
theorem dX8_hasBackStates_14 : decode cX8_hasBackStates 14 = .ok (.aload_n 1, 1) := by decide +kernel
theorem dX8_hasBackStates_15 : decode cX8_hasBackStates 15 = .ok (.iload_n 2, 1) := by decide +kernel
theorem dX8_hasBackStates_16 : decode cX8_hasBackStates 16 = .ok (.invokevirtual 166, 3) := by decide +kernel
theorem dX8_hasBackStates_19 : decode cX8_hasBackStates 19 = .ok (.iconst 1, 1) := by decide +kernel
theorem dX8_hasBackStates_20 : decode cX8_hasBackStates 20 = .ok (.ishr, 1) := by decide +kernel
theorem dX8_hasBackStates_21 : decode cX8_hasBackStates 21 = .ok (.invokevirtual 127, 3) := by decide +kernel
theorem dX8_hasBackStates_24 : decode cX8_hasBackStates 24 = .ok (.ifCond .ne 5, 3) := by decide +kernel
theorem dX8_hasBackStates_27 : decode cX8_hasBackStates 27 = .ok (.iconst 0, 1) := by decide +kernel
theorem dX8_hasBackStates_28 : decode cX8_hasBackStates 28 = .ok (.ireturn, 1) := by decide +kernel
theorem dX8_hasBackStates_29 : decode cX8_hasBackStates 29 = .ok (.iinc 2 1, 3) := by decide +kernel
theorem dX8_hasBackStates_32 : decode cX8_hasBackStates 32 = .ok (.goto (-30), 3) := by decide +kernel
theorem dX8_hasBackStates_35 : decode cX8_hasBackStates 35 = .ok (.iconst 1, 1) := by decide +kernel
theorem dX8_hasBackStates_36 : decode cX8_hasBackStates 36 = .ok (.ireturn, 1) := by decide +kernel
theorem dX8_refusalOfGiven_0 : decode cX8_refusalOfGiven 0 = .ok (.iconst 0, 1) := by decide +kernel
theorem dX8_refusalOfGiven_1 : decode cX8_refusalOfGiven 1 = .ok (.istore_n 1, 1) := by decide +kernel
theorem dX8_refusalOfGiven_2 : decode cX8_refusalOfGiven 2 = .ok (.iconst 0, 1) := by decide +kernel
theorem dX8_refusalOfGiven_3 : decode cX8_refusalOfGiven 3 = .ok (.istore_n 2, 1) := by decide +kernel
theorem dX8_refusalOfGiven_4 : decode cX8_refusalOfGiven 4 = .ok (.iload_n 2, 1) := by decide +kernel
theorem dX8_refusalOfGiven_5 : decode cX8_refusalOfGiven 5 = .ok (.iconst 4, 1) := by decide +kernel
theorem dX8_refusalOfGiven_6 : decode cX8_refusalOfGiven 6 = .ok (.if_icmp .ge 71, 3) := by decide +kernel
theorem dX8_refusalOfGiven_9 : decode cX8_refusalOfGiven 9 = .ok (.aload_n 0, 1) := by decide +kernel
theorem dX8_refusalOfGiven_10 : decode cX8_refusalOfGiven 10 = .ok (.getfield 21, 3) := by decide +kernel
theorem dX8_refusalOfGiven_13 : decode cX8_refusalOfGiven 13 = .ok (.iload_n 2, 1) := by decide +kernel
theorem dX8_refusalOfGiven_14 : decode cX8_refusalOfGiven 14 = .ok (.iaload, 1) := by decide +kernel
theorem dX8_refusalOfGiven_15 : decode cX8_refusalOfGiven 15 = .ok (.ifCond .eq 62, 3) := by decide +kernel
theorem dX8_refusalOfGiven_18 : decode cX8_refusalOfGiven 18 = .ok (.aload_n 0, 1) := by decide +kernel
theorem dX8_refusalOfGiven_19 : decode cX8_refusalOfGiven 19 = .ok (.getfield 21, 3) := by decide +kernel
theorem dX8_refusalOfGiven_22 : decode cX8_refusalOfGiven 22 = .ok (.iload_n 2, 1) := by decide +kernel
theorem dX8_refusalOfGiven_23 : decode cX8_refusalOfGiven 23 = .ok (.iaload, 1) := by decide +kernel
theorem dX8_refusalOfGiven_24 : decode cX8_refusalOfGiven 24 = .ok (.istore_n 3, 1) := by decide +kernel
theorem dX8_refusalOfGiven_25 : decode cX8_refusalOfGiven 25 = .ok (.iload_n 3, 1) := by decide +kernel
theorem dX8_refusalOfGiven_26 : decode cX8_refusalOfGiven 26 = .ok (.aload_n 0, 1) := by decide +kernel
theorem dX8_refusalOfGiven_27 : decode cX8_refusalOfGiven 27 = .ok (.getfield 33, 3) := by decide +kernel
theorem dX8_refusalOfGiven_30 : decode cX8_refusalOfGiven 30 = .ok (.getfield 102, 3) := by decide +kernel
theorem dX8_refusalOfGiven_33 : decode cX8_refusalOfGiven 33 = .ok (.ineg, 1) := by decide +kernel
theorem dX8_refusalOfGiven_34 : decode cX8_refusalOfGiven 34 = .ok (.if_icmp .lt 14, 3) := by decide +kernel
theorem dX8_refusalOfGiven_37 : decode cX8_refusalOfGiven 37 = .ok (.iload_n 3, 1) := by decide +kernel
theorem dX8_refusalOfGiven_38 : decode cX8_refusalOfGiven 38 = .ok (.aload_n 0, 1) := by decide +kernel
theorem dX8_refusalOfGiven_39 : decode cX8_refusalOfGiven 39 = .ok (.getfield 33, 3) := by decide +kernel
theorem dX8_refusalOfGiven_42 : decode cX8_refusalOfGiven 42 = .ok (.getfield 102, 3) := by decide +kernel
theorem dX8_refusalOfGiven_45 : decode cX8_refusalOfGiven 45 = .ok (.if_icmp .le 5, 3) := by decide +kernel
theorem dX8_refusalOfGiven_48 : decode cX8_refusalOfGiven 48 = .ok (.iconst (-1), 1) := by decide +kernel
theorem dX8_refusalOfGiven_49 : decode cX8_refusalOfGiven 49 = .ok (.ireturn, 1) := by decide +kernel
theorem dX8_refusalOfGiven_50 : decode cX8_refusalOfGiven 50 = .ok (.iload_n 3, 1) := by decide +kernel
theorem dX8_refusalOfGiven_51 : decode cX8_refusalOfGiven 51 = .ok (.ifCond .ge 20, 3) := by decide +kernel
theorem dX8_refusalOfGiven_54 : decode cX8_refusalOfGiven 54 = .ok (.aload_n 0, 1) := by decide +kernel
theorem dX8_refusalOfGiven_55 : decode cX8_refusalOfGiven 55 = .ok (.getfield 33, 3) := by decide +kernel
theorem dX8_refusalOfGiven_58 : decode cX8_refusalOfGiven 58 = .ok (.iload_n 3, 1) := by decide +kernel
theorem dX8_refusalOfGiven_59 : decode cX8_refusalOfGiven 59 = .ok (.ineg, 1) := by decide +kernel
theorem dX8_refusalOfGiven_60 : decode cX8_refusalOfGiven 60 = .ok (.iconst 1, 1) := by decide +kernel
theorem dX8_refusalOfGiven_61 : decode cX8_refusalOfGiven 61 = .ok (.isub, 1) := by decide +kernel
theorem dX8_refusalOfGiven_62 : decode cX8_refusalOfGiven 62 = .ok (.invokevirtual 127, 3) := by decide +kernel
theorem dX8_refusalOfGiven_65 : decode cX8_refusalOfGiven 65 = .ok (.ifCond .ne 6, 3) := by decide +kernel
theorem dX8_refusalOfGiven_68 : decode cX8_refusalOfGiven 68 = .ok (.bipush (-6), 2) := by decide +kernel
theorem dX8_refusalOfGiven_70 : decode cX8_refusalOfGiven 70 = .ok (.istore_n 1, 1) := by decide +kernel
theorem dX8_refusalOfGiven_71 : decode cX8_refusalOfGiven 71 = .ok (.iinc 2 1, 3) := by decide +kernel
theorem dX8_refusalOfGiven_74 : decode cX8_refusalOfGiven 74 = .ok (.goto (-70), 3) := by decide +kernel
theorem dX8_refusalOfGiven_77 : decode cX8_refusalOfGiven 77 = .ok (.iload_n 1, 1) := by decide +kernel
theorem dX8_refusalOfGiven_78 : decode cX8_refusalOfGiven 78 = .ok (.ireturn, 1) := by decide +kernel
theorem dX8_bring_0 : decode cX8_bring 0 = .ok (.aload_n 0, 1) := by decide +kernel
theorem dX8_bring_1 : decode cX8_bring 1 = .ok (.getfield 17, 3) := by decide +kernel
theorem dX8_bring_4 : decode cX8_bring 4 = .ok (.iload_n 2, 1) := by decide +kernel
theorem dX8_bring_5 : decode cX8_bring 5 = .ok (.aaload, 1) := by decide +kernel
theorem dX8_bring_6 : decode cX8_bring 6 = .ok (.aload_n 1, 1) := by decide +kernel
theorem dX8_bring_7 : decode cX8_bring 7 = .ok (.invokevirtual 182, 3) := by decide +kernel
theorem dX8_bring_10 : decode cX8_bring 10 = .ok (.aload_n 1, 1) := by decide +kernel
theorem dX8_bring_11 : decode cX8_bring 11 = .ok (.getfield 163, 3) := by decide +kernel
theorem dX8_bring_14 : decode cX8_bring 14 = .ok (.ireturn, 1) := by decide +kernel
theorem dX8_join_0 : decode cX8_join 0 = .ok (.aload_n 2, 1) := by decide +kernel
theorem dX8_join_1 : decode cX8_join 1 = .ok (.getfield 297, 3) := by decide +kernel
theorem dX8_join_4 : decode cX8_join 4 = .ok (.lstore 4, 2) := by decide +kernel
theorem dX8_join_6 : decode cX8_join 6 = .ok (.aload_n 2, 1) := by decide +kernel
theorem dX8_join_7 : decode cX8_join 7 = .ok (.getfield 163, 3) := by decide +kernel
theorem dX8_join_10 : decode cX8_join 10 = .ok (.istore 6, 2) := by decide +kernel
theorem dX8_join_12 : decode cX8_join 12 = .ok (.aload_n 0, 1) := by decide +kernel
theorem dX8_join_13 : decode cX8_join 13 = .ok (.getfield 26, 3) := by decide +kernel
theorem dX8_join_16 : decode cX8_join 16 = .ok (.aload_n 1, 1) := by decide +kernel
theorem dX8_join_17 : decode cX8_join 17 = .ok (.invokevirtual 182, 3) := by decide +kernel
theorem dX8_join_20 : decode cX8_join 20 = .ok (.iconst 0, 1) := by decide +kernel
theorem dX8_join_21 : decode cX8_join 21 = .ok (.istore 7, 2) := by decide +kernel
theorem dX8_join_23 : decode cX8_join 23 = .ok (.iload 7, 2) := by decide +kernel
theorem dX8_join_25 : decode cX8_join 25 = .ok (.iload 6, 2) := by decide +kernel
theorem dX8_join_27 : decode cX8_join 27 = .ok (.if_icmp .ge 33, 3) := by decide +kernel
theorem dX8_join_30 : decode cX8_join 30 = .ok (.aload_n 0, 1) := by decide +kernel
theorem dX8_join_31 : decode cX8_join 31 = .ok (.getfield 26, 3) := by decide +kernel
theorem dX8_join_34 : decode cX8_join 34 = .ok (.lload 4, 2) := by decide +kernel
theorem dX8_join_36 : decode cX8_join 36 = .ok (.iconst 4, 1) := by decide +kernel
theorem dX8_join_37 : decode cX8_join 37 = .ok (.iload 7, 2) := by decide +kernel
theorem dX8_join_39 : decode cX8_join 39 = .ok (.imul, 1) := by decide +kernel
theorem dX8_join_40 : decode cX8_join 40 = .ok (.lushr, 1) := by decide +kernel
theorem dX8_join_41 : decode cX8_join 41 = .ok (.l2i, 1) := by decide +kernel
theorem dX8_join_42 : decode cX8_join 42 = .ok (.bipush 15, 2) := by decide +kernel
theorem dX8_join_44 : decode cX8_join 44 = .ok (.iand, 1) := by decide +kernel
theorem dX8_join_45 : decode cX8_join 45 = .ok (.invokevirtual 156, 3) := by decide +kernel
theorem dX8_join_48 : decode cX8_join 48 = .ok (.ifCond .ne 6, 3) := by decide +kernel
theorem dX8_join_51 : decode cX8_join 51 = .ok (.bipush (-2), 2) := by decide +kernel
theorem dX8_join_53 : decode cX8_join 53 = .ok (.ireturn, 1) := by decide +kernel
theorem dX8_join_54 : decode cX8_join 54 = .ok (.iinc 7 1, 3) := by decide +kernel
theorem dX8_join_57 : decode cX8_join 57 = .ok (.goto (-34), 3) := by decide +kernel
theorem dX8_join_60 : decode cX8_join 60 = .ok (.aload_n 0, 1) := by decide +kernel
theorem dX8_join_61 : decode cX8_join 61 = .ok (.aload_n 0, 1) := by decide +kernel
theorem dX8_join_62 : decode cX8_join 62 = .ok (.getfield 26, 3) := by decide +kernel
theorem dX8_join_65 : decode cX8_join 65 = .ok (.iload_n 3, 1) := by decide +kernel
theorem dX8_join_66 : decode cX8_join 66 = .ok (.invokevirtual 175, 3) := by decide +kernel
theorem dX8_join_69 : decode cX8_join 69 = .ok (.ireturn, 1) := by decide +kernel
theorem dX8_walkDown_0 : decode cX8_walkDown 0 = .ok (.iconst 1, 1) := by decide +kernel
theorem dX8_walkDown_1 : decode cX8_walkDown 1 = .ok (.istore 4, 2) := by decide +kernel
theorem dX8_walkDown_3 : decode cX8_walkDown 3 = .ok (.iload_n 3, 1) := by decide +kernel
theorem dX8_walkDown_4 : decode cX8_walkDown 4 = .ok (.iconst 1, 1) := by decide +kernel
theorem dX8_walkDown_5 : decode cX8_walkDown 5 = .ok (.isub, 1) := by decide +kernel
theorem dX8_walkDown_6 : decode cX8_walkDown 6 = .ok (.istore 5, 2) := by decide +kernel
theorem dX8_walkDown_8 : decode cX8_walkDown 8 = .ok (.iload 5, 2) := by decide +kernel
theorem dX8_walkDown_10 : decode cX8_walkDown 10 = .ok (.ifCond .lt 32, 3) := by decide +kernel
theorem dX8_walkDown_13 : decode cX8_walkDown 13 = .ok (.iconst 4, 1) := by decide +kernel
theorem dX8_walkDown_14 : decode cX8_walkDown 14 = .ok (.iload 4, 2) := by decide +kernel
theorem dX8_walkDown_16 : decode cX8_walkDown 16 = .ok (.imul, 1) := by decide +kernel
theorem dX8_walkDown_17 : decode cX8_walkDown 17 = .ok (.aload_n 1, 1) := by decide +kernel
theorem dX8_walkDown_18 : decode cX8_walkDown 18 = .ok (.aload_n 0, 1) := by decide +kernel
theorem dX8_walkDown_19 : decode cX8_walkDown 19 = .ok (.getfield 33, 3) := by decide +kernel
theorem dX8_walkDown_22 : decode cX8_walkDown 22 = .ok (.iload_n 2, 1) := by decide +kernel
theorem dX8_walkDown_23 : decode cX8_walkDown 23 = .ok (.iconst 2, 1) := by decide +kernel
theorem dX8_walkDown_24 : decode cX8_walkDown 24 = .ok (.iload 5, 2) := by decide +kernel
theorem dX8_walkDown_26 : decode cX8_walkDown 26 = .ok (.imul, 1) := by decide +kernel
theorem dX8_walkDown_27 : decode cX8_walkDown 27 = .ok (.ishr, 1) := by decide +kernel
theorem dX8_walkDown_28 : decode cX8_walkDown 28 = .ok (.iconst 3, 1) := by decide +kernel
theorem dX8_walkDown_29 : decode cX8_walkDown 29 = .ok (.iand, 1) := by decide +kernel
theorem dX8_walkDown_30 : decode cX8_walkDown 30 = .ok (.invokevirtual 301, 3) := by decide +kernel
theorem dX8_walkDown_33 : decode cX8_walkDown 33 = .ok (.iadd, 1) := by decide +kernel
theorem dX8_walkDown_34 : decode cX8_walkDown 34 = .ok (.istore 4, 2) := by decide +kernel
theorem dX8_walkDown_36 : decode cX8_walkDown 36 = .ok (.iinc 5 (-1), 3) := by decide +kernel
theorem dX8_walkDown_39 : decode cX8_walkDown 39 = .ok (.goto (-31), 3) := by decide +kernel
theorem dX8_walkDown_42 : decode cX8_walkDown 42 = .ok (.iload 4, 2) := by decide +kernel
theorem dX8_walkDown_44 : decode cX8_walkDown 44 = .ok (.ireturn, 1) := by decide +kernel
theorem dX8_gather_0 : decode cX8_gather 0 = .ok (.iload_n 1, 1) := by decide +kernel
theorem dX8_gather_1 : decode cX8_gather 1 = .ok (.invokestatic 145, 3) := by decide +kernel
theorem dX8_gather_4 : decode cX8_gather 4 = .ok (.ifCond .eq 10, 3) := by decide +kernel
theorem dX8_gather_7 : decode cX8_gather 7 = .ok (.iload_n 2, 1) := by decide +kernel
theorem dX8_gather_8 : decode cX8_gather 8 = .ok (.invokestatic 145, 3) := by decide +kernel
theorem dX8_gather_11 : decode cX8_gather 11 = .ok (.ifCond .ne 5, 3) := by decide +kernel
theorem dX8_gather_14 : decode cX8_gather 14 = .ok (.iconst (-1), 1) := by decide +kernel
theorem dX8_gather_15 : decode cX8_gather 15 = .ok (.ireturn, 1) := by decide +kernel
theorem dX8_gather_16 : decode cX8_gather 16 = .ok (.aload_n 0, 1) := by decide +kernel
theorem dX8_gather_17 : decode cX8_gather 17 = .ok (.getfield 33, 3) := by decide +kernel
theorem dX8_gather_20 : decode cX8_gather 20 = .ok (.getfield 139, 3) := by decide +kernel
theorem dX8_gather_23 : decode cX8_gather 23 = .ok (.ifCond .ne 6, 3) := by decide +kernel
theorem dX8_gather_26 : decode cX8_gather 26 = .ok (.bipush (-5), 2) := by decide +kernel
theorem dX8_gather_28 : decode cX8_gather 28 = .ok (.ireturn, 1) := by decide +kernel
theorem dX8_gather_29 : decode cX8_gather 29 = .ok (.aload_n 0, 1) := by decide +kernel
theorem dX8_gather_30 : decode cX8_gather 30 = .ok (.getfield 54, 3) := by decide +kernel
theorem dX8_gather_33 : decode cX8_gather 33 = .ok (.invokevirtual 304, 3) := by decide +kernel
theorem dX8_gather_36 : decode cX8_gather 36 = .ok (.aload_n 0, 1) := by decide +kernel
theorem dX8_gather_37 : decode cX8_gather 37 = .ok (.getfield 54, 3) := by decide +kernel
theorem dX8_gather_40 : decode cX8_gather 40 = .ok (.aload_n 0, 1) := by decide +kernel
theorem dX8_gather_41 : decode cX8_gather 41 = .ok (.getfield 33, 3) := by decide +kernel
theorem dX8_gather_44 : decode cX8_gather 44 = .ok (.aload_n 0, 1) := by decide +kernel
theorem dX8_gather_45 : decode cX8_gather 45 = .ok (.getfield 17, 3) := by decide +kernel
theorem dX8_gather_48 : decode cX8_gather 48 = .ok (.iload_n 1, 1) := by decide +kernel
theorem dX8_gather_49 : decode cX8_gather 49 = .ok (.aaload, 1) := by decide +kernel
theorem dX8_gather_50 : decode cX8_gather 50 = .ok (.invokevirtual 307, 3) := by decide +kernel
theorem dX8_gather_53 : decode cX8_gather 53 = .ok (.ifCond .lt 23, 3) := by decide +kernel
theorem dX8_gather_56 : decode cX8_gather 56 = .ok (.aload_n 0, 1) := by decide +kernel
theorem dX8_gather_57 : decode cX8_gather 57 = .ok (.getfield 54, 3) := by decide +kernel
theorem dX8_gather_60 : decode cX8_gather 60 = .ok (.aload_n 0, 1) := by decide +kernel
theorem dX8_gather_61 : decode cX8_gather 61 = .ok (.getfield 33, 3) := by decide +kernel
theorem dX8_gather_64 : decode cX8_gather 64 = .ok (.aload_n 0, 1) := by decide +kernel
theorem dX8_gather_65 : decode cX8_gather 65 = .ok (.getfield 17, 3) := by decide +kernel
theorem dX8_gather_68 : decode cX8_gather 68 = .ok (.iload_n 2, 1) := by decide +kernel
theorem dX8_gather_69 : decode cX8_gather 69 = .ok (.aaload, 1) := by decide +kernel
theorem dX8_gather_70 : decode cX8_gather 70 = .ok (.invokevirtual 307, 3) := by decide +kernel
theorem dX8_gather_73 : decode cX8_gather 73 = .ok (.ifCond .ge 6, 3) := by decide +kernel
theorem dX8_gather_76 : decode cX8_gather 76 = .ok (.bipush (-7), 2) := by decide +kernel
theorem dX8_gather_78 : decode cX8_gather 78 = .ok (.ireturn, 1) := by decide +kernel
theorem dX8_gather_79 : decode cX8_gather 79 = .ok (.iconst 0, 1) := by decide +kernel
theorem dX8_gather_80 : decode cX8_gather 80 = .ok (.ireturn, 1) := by decide +kernel
theorem dX8_levelOf_0 : decode cX8_levelOf 0 = .ok (.aload_n 0, 1) := by decide +kernel
theorem dX8_levelOf_1 : decode cX8_levelOf 1 = .ok (.getfield 33, 3) := by decide +kernel
theorem dX8_levelOf_4 : decode cX8_levelOf 4 = .ok (.iload_n 1, 1) := by decide +kernel
theorem dX8_levelOf_5 : decode cX8_levelOf 5 = .ok (.invokevirtual 179, 3) := by decide +kernel
theorem dX8_levelOf_8 : decode cX8_levelOf 8 = .ok (.istore_n 2, 1) := by decide +kernel
theorem dX8_levelOf_9 : decode cX8_levelOf 9 = .ok (.aload_n 0, 1) := by decide +kernel
theorem dX8_levelOf_10 : decode cX8_levelOf 10 = .ok (.getfield 33, 3) := by decide +kernel
theorem dX8_levelOf_13 : decode cX8_levelOf 13 = .ok (.iload_n 2, 1) := by decide +kernel
theorem dX8_levelOf_14 : decode cX8_levelOf 14 = .ok (.sipush 256, 3) := by decide +kernel
theorem dX8_levelOf_17 : decode cX8_levelOf 17 = .ok (.invokevirtual 220, 3) := by decide +kernel
theorem dX8_levelOf_20 : decode cX8_levelOf 20 = .ok (.ifCond .ne 7, 3) := by decide +kernel
theorem dX8_levelOf_23 : decode cX8_levelOf 23 = .ok (.iconst (-1), 1) := by decide +kernel
theorem dX8_levelOf_24 : decode cX8_levelOf 24 = .ok (.goto 4, 3) := by decide +kernel
theorem dX8_levelOf_27 : decode cX8_levelOf 27 = .ok (.iload_n 2, 1) := by decide +kernel
theorem dX8_levelOf_28 : decode cX8_levelOf 28 = .ok (.ireturn, 1) := by decide +kernel
theorem dX8_walkFrom_0 : decode cX8_walkFrom 0 = .ok (.aload_n 0, 1) := by decide +kernel
theorem dX8_walkFrom_1 : decode cX8_walkFrom 1 = .ok (.getfield 40, 3) := by decide +kernel
theorem dX8_walkFrom_4 : decode cX8_walkFrom 4 = .ok (.aload_n 0, 1) := by decide +kernel
theorem dX8_walkFrom_5 : decode cX8_walkFrom 5 = .ok (.getfield 33, 3) := by decide +kernel
theorem dX8_walkFrom_8 : decode cX8_walkFrom 8 = .ok (.iload_n 2, 1) := by decide +kernel
theorem dX8_walkFrom_9 : decode cX8_walkFrom 9 = .ok (.invokevirtual 223, 3) := by decide +kernel
theorem dX8_walkFrom_12 : decode cX8_walkFrom 12 = .ok (.aload_n 0, 1) := by decide +kernel
theorem dX8_walkFrom_13 : decode cX8_walkFrom 13 = .ok (.getfield 40, 3) := by decide +kernel
theorem dX8_walkFrom_16 : decode cX8_walkFrom 16 = .ok (.invokevirtual 311, 3) := by decide +kernel
theorem dX8_walkFrom_19 : decode cX8_walkFrom 19 = .ok (.aload_n 0, 1) := by decide +kernel
theorem dX8_walkFrom_20 : decode cX8_walkFrom 20 = .ok (.getfield 40, 3) := by decide +kernel
theorem dX8_walkFrom_23 : decode cX8_walkFrom 23 = .ok (.aload_n 0, 1) := by decide +kernel
theorem dX8_walkFrom_24 : decode cX8_walkFrom 24 = .ok (.getfield 33, 3) := by decide +kernel
theorem dX8_walkFrom_27 : decode cX8_walkFrom 27 = .ok (.iload_n 2, 1) := by decide +kernel
theorem dX8_walkFrom_28 : decode cX8_walkFrom 28 = .ok (.aload_n 0, 1) := by decide +kernel
theorem dX8_walkFrom_29 : decode cX8_walkFrom 29 = .ok (.getfield 33, 3) := by decide +kernel
theorem dX8_walkFrom_32 : decode cX8_walkFrom 32 = .ok (.iload_n 1, 1) := by decide +kernel
theorem dX8_walkFrom_33 : decode cX8_walkFrom 33 = .ok (.iload_n 2, 1) := by decide +kernel
theorem dX8_walkFrom_34 : decode cX8_walkFrom 34 = .ok (.invokevirtual 243, 3) := by decide +kernel
theorem dX8_walkFrom_37 : decode cX8_walkFrom 37 = .ok (.iconst 0, 1) := by decide +kernel
theorem dX8_walkFrom_38 : decode cX8_walkFrom 38 = .ok (.invokevirtual 314, 3) := by decide +kernel
theorem dX8_walkFrom_41 : decode cX8_walkFrom 41 = .ok (.ireturn, 1) := by decide +kernel
end
section
theorem dX9_in_0 : decode cX9_in 0 = .ok (.lload_n 0, 1) := by decide +kernel
theorem dX9_in_1 : decode cX9_in 1 = .ok (.lload_n 2, 1) := by decide +kernel
theorem dX9_in_2 : decode cX9_in 2 = .ok (.lcmp, 1) := by decide +kernel
theorem dX9_in_3 : decode cX9_in 3 = .ok (.ifCond .lt 14, 3) := by decide +kernel
theorem dX9_in_6 : decode cX9_in 6 = .ok (.lload_n 0, 1) := by decide +kernel
theorem dX9_in_7 : decode cX9_in 7 = .ok (.lload 4, 2) := by decide +kernel
theorem dX9_in_9 : decode cX9_in 9 = .ok (.lcmp, 1) := by decide +kernel
theorem dX9_in_10 : decode cX9_in 10 = .ok (.ifCond .gt 7, 3) := by decide +kernel
theorem dX9_in_13 : decode cX9_in 13 = .ok (.iconst 1, 1) := by decide +kernel
theorem dX9_in_14 : decode cX9_in 14 = .ok (.goto 4, 3) := by decide +kernel
theorem dX9_in_17 : decode cX9_in 17 = .ok (.iconst 0, 1) := by decide +kernel
theorem dX9_in_18 : decode cX9_in 18 = .ok (.ireturn, 1) := by decide +kernel
theorem dX9_isSheet_0 : decode cX9_isSheet 0 = .ok (.iload_n 0, 1) := by decide +kernel
theorem dX9_isSheet_1 : decode cX9_isSheet 1 = .ok (.i2l, 1) := by decide +kernel
theorem dX9_isSheet_2 : decode cX9_isSheet 2 = .ok (.lconst 0, 1) := by decide +kernel
theorem dX9_isSheet_3 : decode cX9_isSheet 3 = .ok (.ldc2_w 97, 3) := by decide +kernel
theorem dX9_isSheet_6 : decode cX9_isSheet 6 = .ok (.invokestatic 99, 3) := by decide +kernel
theorem dX9_isSheet_9 : decode cX9_isSheet 9 = .ok (.ireturn, 1) := by decide +kernel
theorem dX9_isSpot_0 : decode cX9_isSpot 0 = .ok (.iload_n 0, 1) := by decide +kernel
theorem dX9_isSpot_1 : decode cX9_isSpot 1 = .ok (.i2l, 1) := by decide +kernel
theorem dX9_isSpot_2 : decode cX9_isSpot 2 = .ok (.lconst 0, 1) := by decide +kernel
theorem dX9_isSpot_3 : decode cX9_isSpot 3 = .ok (.ldc2_w 103, 3) := by decide +kernel
theorem dX9_isSpot_6 : decode cX9_isSpot 6 = .ok (.invokestatic 99, 3) := by decide +kernel
theorem dX9_isSpot_9 : decode cX9_isSpot 9 = .ok (.ireturn, 1) := by decide +kernel
theorem dX9_sheet_0 : decode cX9_sheet 0 = .ok (.iload_n 1, 1) := by decide +kernel
theorem dX9_sheet_1 : decode cX9_sheet 1 = .ok (.invokestatic 105, 3) := by decide +kernel
theorem dX9_sheet_4 : decode cX9_sheet 4 = .ok (.ifCond .eq 15, 3) := by decide +kernel
theorem dX9_sheet_7 : decode cX9_sheet 7 = .ok (.iload_n 2, 1) := by decide +kernel
theorem dX9_sheet_8 : decode cX9_sheet 8 = .ok (.i2l, 1) := by decide +kernel
theorem dX9_sheet_9 : decode cX9_sheet 9 = .ok (.lconst 0, 1) := by decide +kernel
theorem dX9_sheet_10 : decode cX9_sheet 10 = .ok (.ldc2_w 109, 3) := by decide +kernel
theorem dX9_sheet_13 : decode cX9_sheet 13 = .ok (.invokestatic 99, 3) := by decide +kernel
theorem dX9_sheet_16 : decode cX9_sheet 16 = .ok (.ifCond .ne 5, 3) := by decide +kernel
theorem dX9_sheet_19 : decode cX9_sheet 19 = .ok (.iconst (-1), 1) := by decide +kernel
theorem dX9_sheet_20 : decode cX9_sheet 20 = .ok (.ireturn, 1) := by decide +kernel
theorem dX9_sheet_21 : decode cX9_sheet 21 = .ok (.iload_n 3, 1) := by decide +kernel
theorem dX9_sheet_22 : decode cX9_sheet 22 = .ok (.ifCond .ge 6, 3) := by decide +kernel
theorem dX9_sheet_25 : decode cX9_sheet 25 = .ok (.bipush (-4), 2) := by decide +kernel
theorem dX9_sheet_27 : decode cX9_sheet 27 = .ok (.ireturn, 1) := by decide +kernel
theorem dX9_sheet_28 : decode cX9_sheet 28 = .ok (.iload_n 3, 1) := by decide +kernel
theorem dX9_sheet_29 : decode cX9_sheet 29 = .ok (.bipush 40, 2) := by decide +kernel
theorem dX9_sheet_31 : decode cX9_sheet 31 = .ok (.if_icmp .le 5, 3) := by decide +kernel
theorem dX9_sheet_34 : decode cX9_sheet 34 = .ok (.iconst (-1), 1) := by decide +kernel
theorem dX9_sheet_35 : decode cX9_sheet 35 = .ok (.ireturn, 1) := by decide +kernel
theorem dX9_sheet_36 : decode cX9_sheet 36 = .ok (.aload_n 0, 1) := by decide +kernel
theorem dX9_sheet_37 : decode cX9_sheet 37 = .ok (.getfield 7, 3) := by decide +kernel
theorem dX9_sheet_40 : decode cX9_sheet 40 = .ok (.iload_n 1, 1) := by decide +kernel
theorem dX9_sheet_41 : decode cX9_sheet 41 = .ok (.iload_n 2, 1) := by decide +kernel
theorem dX9_sheet_42 : decode cX9_sheet 42 = .ok (.iastore, 1) := by decide +kernel
theorem dX9_sheet_43 : decode cX9_sheet 43 = .ok (.aload_n 0, 1) := by decide +kernel
theorem dX9_sheet_44 : decode cX9_sheet 44 = .ok (.getfield 13, 3) := by decide +kernel
theorem dX9_sheet_47 : decode cX9_sheet 47 = .ok (.iload_n 1, 1) := by decide +kernel
theorem dX9_sheet_48 : decode cX9_sheet 48 = .ok (.iload_n 3, 1) := by decide +kernel
theorem dX9_sheet_49 : decode cX9_sheet 49 = .ok (.iastore, 1) := by decide +kernel
theorem dX9_sheet_50 : decode cX9_sheet 50 = .ok (.iconst 0, 1) := by decide +kernel
theorem dX9_sheet_51 : decode cX9_sheet 51 = .ok (.istore 4, 2) := by decide +kernel
theorem dX9_sheet_53 : decode cX9_sheet 53 = .ok (.iload 4, 2) := by decide +kernel
theorem dX9_sheet_55 : decode cX9_sheet 55 = .ok (.iload_n 3, 1) := by decide +kernel
theorem dX9_sheet_56 : decode cX9_sheet 56 = .ok (.if_icmp .ge 22, 3) := by decide +kernel
theorem dX9_sheet_59 : decode cX9_sheet 59 = .ok (.aload_n 0, 1) := by decide +kernel
theorem dX9_sheet_60 : decode cX9_sheet 60 = .ok (.getfield 16, 3) := by decide +kernel
theorem dX9_sheet_63 : decode cX9_sheet 63 = .ok (.bipush 40, 2) := by decide +kernel
theorem dX9_sheet_65 : decode cX9_sheet 65 = .ok (.iload_n 1, 1) := by decide +kernel
theorem dX9_sheet_66 : decode cX9_sheet 66 = .ok (.imul, 1) := by decide +kernel
theorem dX9_sheet_67 : decode cX9_sheet 67 = .ok (.iload 4, 2) := by decide +kernel
theorem dX9_sheet_69 : decode cX9_sheet 69 = .ok (.iadd, 1) := by decide +kernel
theorem dX9_sheet_70 : decode cX9_sheet 70 = .ok (.iconst 0, 1) := by decide +kernel
theorem dX9_sheet_71 : decode cX9_sheet 71 = .ok (.iastore, 1) := by decide +kernel
theorem dX9_sheet_72 : decode cX9_sheet 72 = .ok (.iinc 4 1, 3) := by decide +kernel
theorem dX9_sheet_75 : decode cX9_sheet 75 = .ok (.goto (-22), 3) := by decide +kernel
theorem dX9_sheet_78 : decode cX9_sheet 78 = .ok (.iconst 1, 1) := by decide +kernel
theorem dX9_sheet_79 : decode cX9_sheet 79 = .ok (.ireturn, 1) := by decide +kernel
theorem dX9_cell_0 : decode cX9_cell 0 = .ok (.iload_n 1, 1) := by decide +kernel
theorem dX9_cell_1 : decode cX9_cell 1 = .ok (.invokestatic 105, 3) := by decide +kernel
theorem dX9_cell_4 : decode cX9_cell 4 = .ok (.ifCond .ne 5, 3) := by decide +kernel
theorem dX9_cell_7 : decode cX9_cell 7 = .ok (.iconst (-1), 1) := by decide +kernel
theorem dX9_cell_8 : decode cX9_cell 8 = .ok (.ireturn, 1) := by decide +kernel
theorem dX9_cell_9 : decode cX9_cell 9 = .ok (.aload_n 0, 1) := by decide +kernel
theorem dX9_cell_10 : decode cX9_cell 10 = .ok (.getfield 13, 3) := by decide +kernel
theorem dX9_cell_13 : decode cX9_cell 13 = .ok (.iload_n 1, 1) := by decide +kernel
theorem dX9_cell_14 : decode cX9_cell 14 = .ok (.iaload, 1) := by decide +kernel
theorem dX9_cell_15 : decode cX9_cell 15 = .ok (.ifCond .ge 6, 3) := by decide +kernel
theorem dX9_cell_18 : decode cX9_cell 18 = .ok (.bipush (-3), 2) := by decide +kernel
theorem dX9_cell_20 : decode cX9_cell 20 = .ok (.ireturn, 1) := by decide +kernel
theorem dX9_cell_21 : decode cX9_cell 21 = .ok (.iload_n 2, 1) := by decide +kernel
theorem dX9_cell_22 : decode cX9_cell 22 = .ok (.i2l, 1) := by decide +kernel
theorem dX9_cell_23 : decode cX9_cell 23 = .ok (.lconst 0, 1) := by decide +kernel
theorem dX9_cell_24 : decode cX9_cell 24 = .ok (.aload_n 0, 1) := by decide +kernel
theorem dX9_cell_25 : decode cX9_cell 25 = .ok (.getfield 13, 3) := by decide +kernel
theorem dX9_cell_28 : decode cX9_cell 28 = .ok (.iload_n 1, 1) := by decide +kernel
theorem dX9_cell_29 : decode cX9_cell 29 = .ok (.iaload, 1) := by decide +kernel
theorem dX9_cell_30 : decode cX9_cell 30 = .ok (.iconst 1, 1) := by decide +kernel
theorem dX9_cell_31 : decode cX9_cell 31 = .ok (.isub, 1) := by decide +kernel
theorem dX9_cell_32 : decode cX9_cell 32 = .ok (.i2l, 1) := by decide +kernel
theorem dX9_cell_33 : decode cX9_cell 33 = .ok (.invokestatic 99, 3) := by decide +kernel
theorem dX9_cell_36 : decode cX9_cell 36 = .ok (.ifCond .ne 5, 3) := by decide +kernel
theorem dX9_cell_39 : decode cX9_cell 39 = .ok (.iconst (-1), 1) := by decide +kernel
theorem dX9_cell_40 : decode cX9_cell 40 = .ok (.ireturn, 1) := by decide +kernel
theorem dX9_cell_41 : decode cX9_cell 41 = .ok (.aload_n 0, 1) := by decide +kernel
theorem dX9_cell_42 : decode cX9_cell 42 = .ok (.getfield 16, 3) := by decide +kernel
theorem dX9_cell_45 : decode cX9_cell 45 = .ok (.bipush 40, 2) := by decide +kernel
theorem dX9_cell_47 : decode cX9_cell 47 = .ok (.iload_n 1, 1) := by decide +kernel
theorem dX9_cell_48 : decode cX9_cell 48 = .ok (.imul, 1) := by decide +kernel
theorem dX9_cell_49 : decode cX9_cell 49 = .ok (.iload_n 2, 1) := by decide +kernel
theorem dX9_cell_50 : decode cX9_cell 50 = .ok (.iadd, 1) := by decide +kernel
theorem dX9_cell_51 : decode cX9_cell 51 = .ok (.aload_n 0, 1) := by decide +kernel
theorem dX9_cell_52 : decode cX9_cell 52 = .ok (.getfield 7, 3) := by decide +kernel
theorem dX9_cell_55 : decode cX9_cell 55 = .ok (.iload_n 1, 1) := by decide +kernel
theorem dX9_cell_56 : decode cX9_cell 56 = .ok (.iaload, 1) := by decide +kernel
theorem dX9_cell_57 : decode cX9_cell 57 = .ok (.ifCond .ne 8, 3) := by decide +kernel
theorem dX9_cell_60 : decode cX9_cell 60 = .ok (.iload_n 3, 1) := by decide +kernel
theorem dX9_cell_61 : decode cX9_cell 61 = .ok (.i2b, 1) := by decide +kernel
theorem dX9_cell_62 : decode cX9_cell 62 = .ok (.goto 19, 3) := by decide +kernel
theorem dX9_cell_65 : decode cX9_cell 65 = .ok (.aload_n 0, 1) := by decide +kernel
theorem dX9_cell_66 : decode cX9_cell 66 = .ok (.getfield 7, 3) := by decide +kernel
theorem dX9_cell_69 : decode cX9_cell 69 = .ok (.iload_n 1, 1) := by decide +kernel
theorem dX9_cell_70 : decode cX9_cell 70 = .ok (.iaload, 1) := by decide +kernel
theorem dX9_cell_71 : decode cX9_cell 71 = .ok (.iconst 1, 1) := by decide +kernel
theorem dX9_cell_72 : decode cX9_cell 72 = .ok (.if_icmp .ne 8, 3) := by decide +kernel
theorem dX9_cell_75 : decode cX9_cell 75 = .ok (.iload_n 3, 1) := by decide +kernel
theorem dX9_cell_76 : decode cX9_cell 76 = .ok (.i2s, 1) := by decide +kernel
theorem dX9_cell_77 : decode cX9_cell 77 = .ok (.goto 4, 3) := by decide +kernel
theorem dX9_cell_80 : decode cX9_cell 80 = .ok (.iload_n 3, 1) := by decide +kernel
theorem dX9_cell_81 : decode cX9_cell 81 = .ok (.iastore, 1) := by decide +kernel
theorem dX9_cell_82 : decode cX9_cell 82 = .ok (.iconst 1, 1) := by decide +kernel
theorem dX9_cell_83 : decode cX9_cell 83 = .ok (.ireturn, 1) := by decide +kernel
theorem dX9_told_0 : decode cX9_told 0 = .ok (.iload_n 1, 1) := by decide +kernel
theorem dX9_told_1 : decode cX9_told 1 = .ok (.invokestatic 105, 3) := by decide +kernel
theorem dX9_told_4 : decode cX9_told 4 = .ok (.ifCond .eq 35, 3) := by decide +kernel
theorem dX9_told_7 : decode cX9_told 7 = .ok (.iload_n 2, 1) := by decide +kernel
theorem dX9_told_8 : decode cX9_told 8 = .ok (.i2l, 1) := by decide +kernel
theorem dX9_told_9 : decode cX9_told 9 = .ok (.lconst 0, 1) := by decide +kernel
theorem dX9_told_10 : decode cX9_told 10 = .ok (.aload_n 0, 1) := by decide +kernel
theorem dX9_told_11 : decode cX9_told 11 = .ok (.getfield 13, 3) := by decide +kernel
theorem dX9_told_14 : decode cX9_told 14 = .ok (.iload_n 1, 1) := by decide +kernel
theorem dX9_told_15 : decode cX9_told 15 = .ok (.iaload, 1) := by decide +kernel
theorem dX9_told_16 : decode cX9_told 16 = .ok (.iconst 1, 1) := by decide +kernel
theorem dX9_told_17 : decode cX9_told 17 = .ok (.isub, 1) := by decide +kernel
theorem dX9_told_18 : decode cX9_told 18 = .ok (.i2l, 1) := by decide +kernel
theorem dX9_told_19 : decode cX9_told 19 = .ok (.invokestatic 99, 3) := by decide +kernel
theorem dX9_told_22 : decode cX9_told 22 = .ok (.ifCond .eq 17, 3) := by decide +kernel
theorem dX9_told_25 : decode cX9_told 25 = .ok (.aload_n 0, 1) := by decide +kernel
theorem dX9_told_26 : decode cX9_told 26 = .ok (.getfield 16, 3) := by decide +kernel
theorem dX9_told_29 : decode cX9_told 29 = .ok (.bipush 40, 2) := by decide +kernel
theorem dX9_told_31 : decode cX9_told 31 = .ok (.iload_n 1, 1) := by decide +kernel
theorem dX9_told_32 : decode cX9_told 32 = .ok (.imul, 1) := by decide +kernel
theorem dX9_told_33 : decode cX9_told 33 = .ok (.iload_n 2, 1) := by decide +kernel
theorem dX9_told_34 : decode cX9_told 34 = .ok (.iadd, 1) := by decide +kernel
theorem dX9_told_35 : decode cX9_told 35 = .ok (.iaload, 1) := by decide +kernel
theorem dX9_told_36 : decode cX9_told 36 = .ok (.goto 5, 3) := by decide +kernel
theorem dX9_told_39 : decode cX9_told 39 = .ok (.ldc 113, 2) := by decide +kernel
theorem dX9_told_41 : decode cX9_told 41 = .ok (.ireturn, 1) := by decide +kernel
theorem dX9_lose_0 : decode cX9_lose 0 = .ok (.iload_n 1, 1) := by decide +kernel
theorem dX9_lose_1 : decode cX9_lose 1 = .ok (.invokestatic 105, 3) := by decide +kernel
theorem dX9_lose_4 : decode cX9_lose 4 = .ok (.ifCond .ne 5, 3) := by decide +kernel
theorem dX9_lose_7 : decode cX9_lose 7 = .ok (.iconst (-1), 1) := by decide +kernel
theorem dX9_lose_8 : decode cX9_lose 8 = .ok (.ireturn, 1) := by decide +kernel
theorem dX9_lose_9 : decode cX9_lose 9 = .ok (.aload_n 0, 1) := by decide +kernel
theorem dX9_lose_10 : decode cX9_lose 10 = .ok (.getfield 13, 3) := by decide +kernel
theorem dX9_lose_13 : decode cX9_lose 13 = .ok (.iload_n 1, 1) := by decide +kernel
theorem dX9_lose_14 : decode cX9_lose 14 = .ok (.iaload, 1) := by decide +kernel
theorem dX9_lose_15 : decode cX9_lose 15 = .ok (.ifCond .ge 6, 3) := by decide +kernel
theorem dX9_lose_18 : decode cX9_lose 18 = .ok (.bipush (-3), 2) := by decide +kernel
theorem dX9_lose_20 : decode cX9_lose 20 = .ok (.ireturn, 1) := by decide +kernel
theorem dX9_lose_21 : decode cX9_lose 21 = .ok (.aload_n 0, 1) := by decide +kernel
theorem dX9_lose_22 : decode cX9_lose 22 = .ok (.getfield 13, 3) := by decide +kernel
theorem dX9_lose_25 : decode cX9_lose 25 = .ok (.iload_n 1, 1) := by decide +kernel
theorem dX9_lose_26 : decode cX9_lose 26 = .ok (.iconst (-1), 1) := by decide +kernel
theorem dX9_lose_27 : decode cX9_lose 27 = .ok (.iastore, 1) := by decide +kernel
theorem dX9_lose_28 : decode cX9_lose 28 = .ok (.iconst 1, 1) := by decide +kernel
theorem dX9_lose_29 : decode cX9_lose 29 = .ok (.ireturn, 1) := by decide +kernel
theorem dX9_letters_0 : decode cX9_letters 0 = .ok (.iload_n 1, 1) := by decide +kernel
theorem dX9_letters_1 : decode cX9_letters 1 = .ok (.i2l, 1) := by decide +kernel
theorem dX9_letters_2 : decode cX9_letters 2 = .ok (.ldc2_w 109, 3) := by decide +kernel
theorem dX9_letters_5 : decode cX9_letters 5 = .ok (.ldc2_w 114, 3) := by decide +kernel
theorem dX9_letters_8 : decode cX9_letters 8 = .ok (.invokestatic 99, 3) := by decide +kernel
theorem dX9_letters_11 : decode cX9_letters 11 = .ok (.ifCond .ne 5, 3) := by decide +kernel
theorem dX9_letters_14 : decode cX9_letters 14 = .ok (.iconst (-1), 1) := by decide +kernel
theorem dX9_letters_15 : decode cX9_letters 15 = .ok (.ireturn, 1) := by decide +kernel
theorem dX9_letters_16 : decode cX9_letters 16 = .ok (.aload_n 0, 1) := by decide +kernel
theorem dX9_letters_17 : decode cX9_letters 17 = .ok (.iload_n 1, 1) := by decide +kernel
theorem dX9_letters_18 : decode cX9_letters 18 = .ok (.putfield 19, 3) := by decide +kernel
theorem dX9_letters_21 : decode cX9_letters 21 = .ok (.aload_n 0, 1) := by decide +kernel
theorem dX9_letters_22 : decode cX9_letters 22 = .ok (.iconst 0, 1) := by decide +kernel
theorem dX9_letters_23 : decode cX9_letters 23 = .ok (.putfield 116, 3) := by decide +kernel
theorem dX9_letters_26 : decode cX9_letters 26 = .ok (.iconst 0, 1) := by decide +kernel
theorem dX9_letters_27 : decode cX9_letters 27 = .ok (.istore_n 2, 1) := by decide +kernel
theorem dX9_letters_28 : decode cX9_letters 28 = .ok (.iload_n 2, 1) := by decide +kernel
theorem dX9_letters_29 : decode cX9_letters 29 = .ok (.bipush 8, 2) := by decide +kernel
theorem dX9_letters_31 : decode cX9_letters 31 = .ok (.if_icmp .ge 16, 3) := by decide +kernel
theorem dX9_letters_34 : decode cX9_letters 34 = .ok (.aload_n 0, 1) := by decide +kernel
theorem dX9_letters_35 : decode cX9_letters 35 = .ok (.getfield 32, 3) := by decide +kernel
theorem dX9_letters_38 : decode cX9_letters 38 = .ok (.iload_n 2, 1) := by decide +kernel
theorem dX9_letters_39 : decode cX9_letters 39 = .ok (.iconst 0, 1) := by decide +kernel
theorem dX9_letters_40 : decode cX9_letters 40 = .ok (.iastore, 1) := by decide +kernel
theorem dX9_letters_41 : decode cX9_letters 41 = .ok (.iinc 2 1, 3) := by decide +kernel
theorem dX9_letters_44 : decode cX9_letters 44 = .ok (.goto (-16), 3) := by decide +kernel
theorem dX9_letters_47 : decode cX9_letters 47 = .ok (.iconst 1, 1) := by decide +kernel
theorem dX9_letters_48 : decode cX9_letters 48 = .ok (.ireturn, 1) := by decide +kernel
theorem dX9_state_0 : decode cX9_state 0 = .ok (.iload_n 1, 1) := by decide +kernel
theorem dX9_state_1 : decode cX9_state 1 = .ok (.invokestatic 105, 3) := by decide +kernel
theorem dX9_state_4 : decode cX9_state 4 = .ok (.ifCond .eq 7, 3) := by decide +kernel
theorem dX9_state_7 : decode cX9_state 7 = .ok (.iload_n 2, 1) := by decide +kernel
theorem dX9_state_8 : decode cX9_state 8 = .ok (.ifCond .ge 5, 3) := by decide +kernel
theorem dX9_state_11 : decode cX9_state 11 = .ok (.iconst (-1), 1) := by decide +kernel
theorem dX9_state_12 : decode cX9_state 12 = .ok (.ireturn, 1) := by decide +kernel
theorem dX9_state_13 : decode cX9_state 13 = .ok (.aload_n 0, 1) := by decide +kernel
theorem dX9_state_14 : decode cX9_state 14 = .ok (.getfield 13, 3) := by decide +kernel
theorem dX9_state_17 : decode cX9_state 17 = .ok (.iload_n 1, 1) := by decide +kernel
theorem dX9_state_18 : decode cX9_state 18 = .ok (.iaload, 1) := by decide +kernel
theorem dX9_state_19 : decode cX9_state 19 = .ok (.ifCond .ge 6, 3) := by decide +kernel
theorem dX9_state_22 : decode cX9_state 22 = .ok (.bipush (-3), 2) := by decide +kernel
theorem dX9_state_24 : decode cX9_state 24 = .ok (.ireturn, 1) := by decide +kernel
theorem dX9_state_25 : decode cX9_state 25 = .ok (.iconst 1, 1) := by decide +kernel
theorem dX9_state_26 : decode cX9_state 26 = .ok (.istore_n 3, 1) := by decide +kernel
theorem dX9_state_27 : decode cX9_state 27 = .ok (.iconst 0, 1) := by decide +kernel
theorem dX9_state_28 : decode cX9_state 28 = .ok (.istore 4, 2) := by decide +kernel
theorem dX9_state_30 : decode cX9_state 30 = .ok (.iload 4, 2) := by decide +kernel
theorem dX9_state_32 : decode cX9_state 32 = .ok (.aload_n 0, 1) := by decide +kernel
theorem dX9_state_33 : decode cX9_state 33 = .ok (.getfield 19, 3) := by decide +kernel
theorem dX9_state_36 : decode cX9_state 36 = .ok (.if_icmp .ge 136, 3) := by decide +kernel
theorem dX9_state_39 : decode cX9_state 39 = .ok (.iload_n 2, 1) := by decide +kernel
theorem dX9_state_40 : decode cX9_state 40 = .ok (.i2l, 1) := by decide +kernel
theorem dX9_state_41 : decode cX9_state 41 = .ok (.iconst 2, 1) := by decide +kernel
theorem dX9_state_42 : decode cX9_state 42 = .ok (.iload 4, 2) := by decide +kernel
theorem dX9_state_44 : decode cX9_state 44 = .ok (.imul, 1) := by decide +kernel
theorem dX9_state_45 : decode cX9_state 45 = .ok (.i2l, 1) := by decide +kernel
theorem dX9_state_46 : decode cX9_state 46 = .ok (.ladd, 1) := by decide +kernel
theorem dX9_state_47 : decode cX9_state 47 = .ok (.lconst 1, 1) := by decide +kernel
theorem dX9_state_48 : decode cX9_state 48 = .ok (.ladd, 1) := by decide +kernel
theorem dX9_state_49 : decode cX9_state 49 = .ok (.aload_n 0, 1) := by decide +kernel
theorem dX9_state_50 : decode cX9_state 50 = .ok (.getfield 13, 3) := by decide +kernel
theorem dX9_state_53 : decode cX9_state 53 = .ok (.iload_n 1, 1) := by decide +kernel
theorem dX9_state_54 : decode cX9_state 54 = .ok (.iaload, 1) := by decide +kernel
theorem dX9_state_55 : decode cX9_state 55 = .ok (.i2l, 1) := by decide +kernel
theorem dX9_state_56 : decode cX9_state 56 = .ok (.lcmp, 1) := by decide +kernel
theorem dX9_state_57 : decode cX9_state 57 = .ok (.ifCond .ge 7, 3) := by decide +kernel
theorem dX9_state_60 : decode cX9_state 60 = .ok (.iconst 1, 1) := by decide +kernel
theorem dX9_state_61 : decode cX9_state 61 = .ok (.goto 4, 3) := by decide +kernel
theorem dX9_state_64 : decode cX9_state 64 = .ok (.iconst 0, 1) := by decide +kernel
theorem dX9_state_65 : decode cX9_state 65 = .ok (.istore 5, 2) := by decide +kernel
theorem dX9_state_67 : decode cX9_state 67 = .ok (.iload 5, 2) := by decide +kernel
theorem dX9_state_69 : decode cX9_state 69 = .ok (.ifCond .eq 22, 3) := by decide +kernel
theorem dX9_state_72 : decode cX9_state 72 = .ok (.aload_n 0, 1) := by decide +kernel
theorem dX9_state_73 : decode cX9_state 73 = .ok (.getfield 16, 3) := by decide +kernel
theorem dX9_state_76 : decode cX9_state 76 = .ok (.bipush 40, 2) := by decide +kernel
theorem dX9_state_78 : decode cX9_state 78 = .ok (.iload_n 1, 1) := by decide +kernel
theorem dX9_state_79 : decode cX9_state 79 = .ok (.imul, 1) := by decide +kernel
theorem dX9_state_80 : decode cX9_state 80 = .ok (.iload_n 2, 1) := by decide +kernel
theorem dX9_state_81 : decode cX9_state 81 = .ok (.iadd, 1) := by decide +kernel
theorem dX9_state_82 : decode cX9_state 82 = .ok (.iconst 2, 1) := by decide +kernel
theorem dX9_state_83 : decode cX9_state 83 = .ok (.iload 4, 2) := by decide +kernel
theorem dX9_state_85 : decode cX9_state 85 = .ok (.imul, 1) := by decide +kernel
theorem dX9_state_86 : decode cX9_state 86 = .ok (.iadd, 1) := by decide +kernel
theorem dX9_state_87 : decode cX9_state 87 = .ok (.iaload, 1) := by decide +kernel
theorem dX9_state_88 : decode cX9_state 88 = .ok (.goto 5, 3) := by decide +kernel
theorem dX9_state_91 : decode cX9_state 91 = .ok (.iload 4, 2) := by decide +kernel
theorem dX9_state_93 : decode cX9_state 93 = .ok (.istore 6, 2) := by decide +kernel
theorem dX9_state_95 : decode cX9_state 95 = .ok (.iload 5, 2) := by decide +kernel
theorem dX9_state_97 : decode cX9_state 97 = .ok (.ifCond .eq 24, 3) := by decide +kernel
theorem dX9_state_100 : decode cX9_state 100 = .ok (.aload_n 0, 1) := by decide +kernel
theorem dX9_state_101 : decode cX9_state 101 = .ok (.getfield 16, 3) := by decide +kernel
theorem dX9_state_104 : decode cX9_state 104 = .ok (.bipush 40, 2) := by decide +kernel
theorem dX9_state_106 : decode cX9_state 106 = .ok (.iload_n 1, 1) := by decide +kernel
theorem dX9_state_107 : decode cX9_state 107 = .ok (.imul, 1) := by decide +kernel
theorem dX9_state_108 : decode cX9_state 108 = .ok (.iload_n 2, 1) := by decide +kernel
theorem dX9_state_109 : decode cX9_state 109 = .ok (.iadd, 1) := by decide +kernel
theorem dX9_state_110 : decode cX9_state 110 = .ok (.iconst 2, 1) := by decide +kernel
theorem dX9_state_111 : decode cX9_state 111 = .ok (.iload 4, 2) := by decide +kernel
theorem dX9_state_113 : decode cX9_state 113 = .ok (.imul, 1) := by decide +kernel
theorem dX9_state_114 : decode cX9_state 114 = .ok (.iadd, 1) := by decide +kernel
theorem dX9_state_115 : decode cX9_state 115 = .ok (.iconst 1, 1) := by decide +kernel
theorem dX9_state_116 : decode cX9_state 116 = .ok (.iadd, 1) := by decide +kernel
theorem dX9_state_117 : decode cX9_state 117 = .ok (.iaload, 1) := by decide +kernel
theorem dX9_state_118 : decode cX9_state 118 = .ok (.goto 4, 3) := by decide +kernel
theorem dX9_state_121 : decode cX9_state 121 = .ok (.iconst (-1), 1) := by decide +kernel
theorem dX9_state_122 : decode cX9_state 122 = .ok (.istore 7, 2) := by decide +kernel
theorem dX9_state_124 : decode cX9_state 124 = .ok (.iload_n 3, 1) := by decide +kernel
theorem dX9_state_125 : decode cX9_state 125 = .ok (.ifCond .eq 39, 3) := by decide +kernel
theorem dX9_state_128 : decode cX9_state 128 = .ok (.iload 6, 2) := by decide +kernel
theorem dX9_state_130 : decode cX9_state 130 = .ok (.i2l, 1) := by decide +kernel
theorem dX9_state_131 : decode cX9_state 131 = .ok (.lconst 0, 1) := by decide +kernel
theorem dX9_state_132 : decode cX9_state 132 = .ok (.aload_n 0, 1) := by decide +kernel
theorem dX9_state_133 : decode cX9_state 133 = .ok (.getfield 19, 3) := by decide +kernel
theorem dX9_state_136 : decode cX9_state 136 = .ok (.iconst 1, 1) := by decide +kernel
theorem dX9_state_137 : decode cX9_state 137 = .ok (.isub, 1) := by decide +kernel
theorem dX9_state_138 : decode cX9_state 138 = .ok (.i2l, 1) := by decide +kernel
theorem dX9_state_139 : decode cX9_state 139 = .ok (.invokestatic 99, 3) := by decide +kernel
theorem dX9_state_142 : decode cX9_state 142 = .ok (.ifCond .eq 22, 3) := by decide +kernel
theorem dX9_state_145 : decode cX9_state 145 = .ok (.iload 7, 2) := by decide +kernel
theorem dX9_state_147 : decode cX9_state 147 = .ok (.i2l, 1) := by decide +kernel
theorem dX9_state_148 : decode cX9_state 148 = .ok (.ldc2_w 119, 3) := by decide +kernel
theorem dX9_state_151 : decode cX9_state 151 = .ok (.ldc2_w 103, 3) := by decide +kernel
theorem dX9_state_154 : decode cX9_state 154 = .ok (.invokestatic 99, 3) := by decide +kernel
theorem dX9_state_157 : decode cX9_state 157 = .ok (.ifCond .eq 7, 3) := by decide +kernel
theorem dX9_state_160 : decode cX9_state 160 = .ok (.iconst 1, 1) := by decide +kernel
theorem dX9_state_161 : decode cX9_state 161 = .ok (.goto 4, 3) := by decide +kernel
theorem dX9_state_164 : decode cX9_state 164 = .ok (.iconst 0, 1) := by decide +kernel
theorem dX9_state_165 : decode cX9_state 165 = .ok (.istore_n 3, 1) := by decide +kernel
theorem dX9_state_166 : decode cX9_state 166 = .ok (.iinc 4 1, 3) := by decide +kernel
theorem dX9_state_169 : decode cX9_state 169 = .ok (.goto (-139), 3) := by decide +kernel
theorem dX9_state_172 : decode cX9_state 172 = .ok (.iload_n 3, 1) := by decide +kernel
theorem dX9_state_173 : decode cX9_state 173 = .ok (.ifCond .ne 5, 3) := by decide +kernel
theorem dX9_state_176 : decode cX9_state 176 = .ok (.iconst (-1), 1) := by decide +kernel
theorem dX9_state_177 : decode cX9_state 177 = .ok (.ireturn, 1) := by decide +kernel
theorem dX9_state_178 : decode cX9_state 178 = .ok (.aload_n 0, 1) := by decide +kernel
theorem dX9_state_179 : decode cX9_state 179 = .ok (.getfield 116, 3) := by decide +kernel
theorem dX9_state_182 : decode cX9_state 182 = .ok (.bipush 8, 2) := by decide +kernel
theorem dX9_state_184 : decode cX9_state 184 = .ok (.if_icmp .ne 6, 3) := by decide +kernel
theorem dX9_state_187 : decode cX9_state 187 = .ok (.bipush (-2), 2) := by decide +kernel
theorem dX9_state_189 : decode cX9_state 189 = .ok (.ireturn, 1) := by decide +kernel
theorem dX9_state_190 : decode cX9_state 190 = .ok (.iconst 0, 1) := by decide +kernel
theorem dX9_state_191 : decode cX9_state 191 = .ok (.istore 4, 2) := by decide +kernel
theorem dX9_state_193 : decode cX9_state 193 = .ok (.iload 4, 2) := by decide +kernel
theorem dX9_state_195 : decode cX9_state 195 = .ok (.aload_n 0, 1) := by decide +kernel
theorem dX9_state_196 : decode cX9_state 196 = .ok (.getfield 19, 3) := by decide +kernel
theorem dX9_state_199 : decode cX9_state 199 = .ok (.if_icmp .ge 118, 3) := by decide +kernel
theorem dX9_state_202 : decode cX9_state 202 = .ok (.iload_n 2, 1) := by decide +kernel
theorem dX9_state_203 : decode cX9_state 203 = .ok (.i2l, 1) := by decide +kernel
theorem dX9_state_204 : decode cX9_state 204 = .ok (.iconst 2, 1) := by decide +kernel
theorem dX9_state_205 : decode cX9_state 205 = .ok (.iload 4, 2) := by decide +kernel
theorem dX9_state_207 : decode cX9_state 207 = .ok (.imul, 1) := by decide +kernel
theorem dX9_state_208 : decode cX9_state 208 = .ok (.i2l, 1) := by decide +kernel
theorem dX9_state_209 : decode cX9_state 209 = .ok (.ladd, 1) := by decide +kernel
theorem dX9_state_210 : decode cX9_state 210 = .ok (.lconst 1, 1) := by decide +kernel
theorem dX9_state_211 : decode cX9_state 211 = .ok (.ladd, 1) := by decide +kernel
theorem dX9_state_212 : decode cX9_state 212 = .ok (.aload_n 0, 1) := by decide +kernel
theorem dX9_state_213 : decode cX9_state 213 = .ok (.getfield 13, 3) := by decide +kernel
theorem dX9_state_216 : decode cX9_state 216 = .ok (.iload_n 1, 1) := by decide +kernel
theorem dX9_state_217 : decode cX9_state 217 = .ok (.iaload, 1) := by decide +kernel
theorem dX9_state_218 : decode cX9_state 218 = .ok (.i2l, 1) := by decide +kernel
theorem dX9_state_219 : decode cX9_state 219 = .ok (.lcmp, 1) := by decide +kernel
theorem dX9_state_220 : decode cX9_state 220 = .ok (.ifCond .ge 7, 3) := by decide +kernel
theorem dX9_state_223 : decode cX9_state 223 = .ok (.iconst 1, 1) := by decide +kernel
theorem dX9_state_224 : decode cX9_state 224 = .ok (.goto 4, 3) := by decide +kernel
theorem dX9_state_227 : decode cX9_state 227 = .ok (.iconst 0, 1) := by decide +kernel
theorem dX9_state_228 : decode cX9_state 228 = .ok (.istore 5, 2) := by decide +kernel
theorem dX9_state_230 : decode cX9_state 230 = .ok (.aload_n 0, 1) := by decide +kernel
theorem dX9_state_231 : decode cX9_state 231 = .ok (.getfield 23, 3) := by decide +kernel
theorem dX9_state_234 : decode cX9_state 234 = .ok (.iconst 4, 1) := by decide +kernel
theorem dX9_state_235 : decode cX9_state 235 = .ok (.aload_n 0, 1) := by decide +kernel
theorem dX9_state_236 : decode cX9_state 236 = .ok (.getfield 116, 3) := by decide +kernel
theorem dX9_state_239 : decode cX9_state 239 = .ok (.imul, 1) := by decide +kernel
theorem dX9_state_240 : decode cX9_state 240 = .ok (.iload 4, 2) := by decide +kernel
theorem dX9_state_242 : decode cX9_state 242 = .ok (.iadd, 1) := by decide +kernel
theorem dX9_state_243 : decode cX9_state 243 = .ok (.iload 5, 2) := by decide +kernel
theorem dX9_state_245 : decode cX9_state 245 = .ok (.ifCond .eq 22, 3) := by decide +kernel
theorem dX9_state_248 : decode cX9_state 248 = .ok (.aload_n 0, 1) := by decide +kernel
theorem dX9_state_249 : decode cX9_state 249 = .ok (.getfield 16, 3) := by decide +kernel
theorem dX9_state_252 : decode cX9_state 252 = .ok (.bipush 40, 2) := by decide +kernel
theorem dX9_state_254 : decode cX9_state 254 = .ok (.iload_n 1, 1) := by decide +kernel
theorem dX9_state_255 : decode cX9_state 255 = .ok (.imul, 1) := by decide +kernel
theorem dX9_state_256 : decode cX9_state 256 = .ok (.iload_n 2, 1) := by decide +kernel
theorem dX9_state_257 : decode cX9_state 257 = .ok (.iadd, 1) := by decide +kernel
theorem dX9_state_258 : decode cX9_state 258 = .ok (.iconst 2, 1) := by decide +kernel
theorem dX9_state_259 : decode cX9_state 259 = .ok (.iload 4, 2) := by decide +kernel
theorem dX9_state_261 : decode cX9_state 261 = .ok (.imul, 1) := by decide +kernel
theorem dX9_state_262 : decode cX9_state 262 = .ok (.iadd, 1) := by decide +kernel
theorem dX9_state_263 : decode cX9_state 263 = .ok (.iaload, 1) := by decide +kernel
theorem dX9_state_264 : decode cX9_state 264 = .ok (.goto 5, 3) := by decide +kernel
theorem dX9_state_267 : decode cX9_state 267 = .ok (.iload 4, 2) := by decide +kernel
theorem dX9_state_269 : decode cX9_state 269 = .ok (.iastore, 1) := by decide +kernel
theorem dX9_state_270 : decode cX9_state 270 = .ok (.aload_n 0, 1) := by decide +kernel
theorem dX9_state_271 : decode cX9_state 271 = .ok (.getfield 26, 3) := by decide +kernel
theorem dX9_state_274 : decode cX9_state 274 = .ok (.iconst 4, 1) := by decide +kernel
theorem dX9_state_275 : decode cX9_state 275 = .ok (.aload_n 0, 1) := by decide +kernel
theorem dX9_state_276 : decode cX9_state 276 = .ok (.getfield 116, 3) := by decide +kernel
theorem dX9_state_279 : decode cX9_state 279 = .ok (.imul, 1) := by decide +kernel
theorem dX9_state_280 : decode cX9_state 280 = .ok (.iload 4, 2) := by decide +kernel
theorem dX9_state_282 : decode cX9_state 282 = .ok (.iadd, 1) := by decide +kernel
theorem dX9_state_283 : decode cX9_state 283 = .ok (.iload 5, 2) := by decide +kernel
theorem dX9_state_285 : decode cX9_state 285 = .ok (.ifCond .eq 24, 3) := by decide +kernel
theorem dX9_state_288 : decode cX9_state 288 = .ok (.aload_n 0, 1) := by decide +kernel
theorem dX9_state_289 : decode cX9_state 289 = .ok (.getfield 16, 3) := by decide +kernel
theorem dX9_state_292 : decode cX9_state 292 = .ok (.bipush 40, 2) := by decide +kernel
theorem dX9_state_294 : decode cX9_state 294 = .ok (.iload_n 1, 1) := by decide +kernel
theorem dX9_state_295 : decode cX9_state 295 = .ok (.imul, 1) := by decide +kernel
theorem dX9_state_296 : decode cX9_state 296 = .ok (.iload_n 2, 1) := by decide +kernel
theorem dX9_state_297 : decode cX9_state 297 = .ok (.iadd, 1) := by decide +kernel
theorem dX9_state_298 : decode cX9_state 298 = .ok (.iconst 2, 1) := by decide +kernel
theorem dX9_state_299 : decode cX9_state 299 = .ok (.iload 4, 2) := by decide +kernel
theorem dX9_state_301 : decode cX9_state 301 = .ok (.imul, 1) := by decide +kernel
theorem dX9_state_302 : decode cX9_state 302 = .ok (.iadd, 1) := by decide +kernel
theorem dX9_state_303 : decode cX9_state 303 = .ok (.iconst 1, 1) := by decide +kernel
theorem dX9_state_304 : decode cX9_state 304 = .ok (.iadd, 1) := by decide +kernel
theorem dX9_state_305 : decode cX9_state 305 = .ok (.iaload, 1) := by decide +kernel
theorem dX9_state_306 : decode cX9_state 306 = .ok (.goto 4, 3) := by decide +kernel
theorem dX9_state_309 : decode cX9_state 309 = .ok (.iconst (-1), 1) := by decide +kernel
theorem dX9_state_310 : decode cX9_state 310 = .ok (.iastore, 1) := by decide +kernel
theorem dX9_state_311 : decode cX9_state 311 = .ok (.iinc 4 1, 3) := by decide +kernel
theorem dX9_state_314 : decode cX9_state 314 = .ok (.goto (-121), 3) := by decide +kernel
theorem dX9_state_317 : decode cX9_state 317 = .ok (.aload_n 0, 1) := by decide +kernel
theorem dX9_state_318 : decode cX9_state 318 = .ok (.dup, 1) := by decide +kernel
theorem dX9_state_319 : decode cX9_state 319 = .ok (.getfield 116, 3) := by decide +kernel
theorem dX9_state_322 : decode cX9_state 322 = .ok (.iconst 1, 1) := by decide +kernel
theorem dX9_state_323 : decode cX9_state 323 = .ok (.iadd, 1) := by decide +kernel
theorem dX9_state_324 : decode cX9_state 324 = .ok (.putfield 116, 3) := by decide +kernel
theorem dX9_state_327 : decode cX9_state 327 = .ok (.aload_n 0, 1) := by decide +kernel
theorem dX9_state_328 : decode cX9_state 328 = .ok (.getfield 116, 3) := by decide +kernel
theorem dX9_state_331 : decode cX9_state 331 = .ok (.iconst 1, 1) := by decide +kernel
theorem dX9_state_332 : decode cX9_state 332 = .ok (.isub, 1) := by decide +kernel
theorem dX9_state_333 : decode cX9_state 333 = .ok (.ireturn, 1) := by decide +kernel
theorem dX9_isFair_0 : decode cX9_isFair 0 = .ok (.iconst 1, 1) := by decide +kernel
theorem dX9_isFair_1 : decode cX9_isFair 1 = .ok (.istore_n 2, 1) := by decide +kernel
theorem dX9_isFair_2 : decode cX9_isFair 2 = .ok (.iconst 0, 1) := by decide +kernel
theorem dX9_isFair_3 : decode cX9_isFair 3 = .ok (.istore_n 3, 1) := by decide +kernel
theorem dX9_isFair_4 : decode cX9_isFair 4 = .ok (.iload_n 3, 1) := by decide +kernel
theorem dX9_isFair_5 : decode cX9_isFair 5 = .ok (.aload_n 0, 1) := by decide +kernel
theorem dX9_isFair_6 : decode cX9_isFair 6 = .ok (.getfield 19, 3) := by decide +kernel
theorem dX9_isFair_9 : decode cX9_isFair 9 = .ok (.if_icmp .ge 58, 3) := by decide +kernel
theorem dX9_isFair_12 : decode cX9_isFair 12 = .ok (.iconst 0, 1) := by decide +kernel
theorem dX9_isFair_13 : decode cX9_isFair 13 = .ok (.istore 4, 2) := by decide +kernel
theorem dX9_isFair_15 : decode cX9_isFair 15 = .ok (.iload 4, 2) := by decide +kernel
theorem dX9_isFair_17 : decode cX9_isFair 17 = .ok (.iload_n 3, 1) := by decide +kernel
theorem dX9_isFair_18 : decode cX9_isFair 18 = .ok (.if_icmp .ge 43, 3) := by decide +kernel
theorem dX9_isFair_21 : decode cX9_isFair 21 = .ok (.iload_n 2, 1) := by decide +kernel
theorem dX9_isFair_22 : decode cX9_isFair 22 = .ok (.ifCond .eq 31, 3) := by decide +kernel
theorem dX9_isFair_25 : decode cX9_isFair 25 = .ok (.aload_n 0, 1) := by decide +kernel
theorem dX9_isFair_26 : decode cX9_isFair 26 = .ok (.getfield 23, 3) := by decide +kernel
theorem dX9_isFair_29 : decode cX9_isFair 29 = .ok (.iconst 4, 1) := by decide +kernel
theorem dX9_isFair_30 : decode cX9_isFair 30 = .ok (.iload_n 1, 1) := by decide +kernel
theorem dX9_isFair_31 : decode cX9_isFair 31 = .ok (.imul, 1) := by decide +kernel
theorem dX9_isFair_32 : decode cX9_isFair 32 = .ok (.iload_n 3, 1) := by decide +kernel
theorem dX9_isFair_33 : decode cX9_isFair 33 = .ok (.iadd, 1) := by decide +kernel
theorem dX9_isFair_34 : decode cX9_isFair 34 = .ok (.iaload, 1) := by decide +kernel
theorem dX9_isFair_35 : decode cX9_isFair 35 = .ok (.aload_n 0, 1) := by decide +kernel
theorem dX9_isFair_36 : decode cX9_isFair 36 = .ok (.getfield 23, 3) := by decide +kernel
theorem dX9_isFair_39 : decode cX9_isFair 39 = .ok (.iconst 4, 1) := by decide +kernel
theorem dX9_isFair_40 : decode cX9_isFair 40 = .ok (.iload_n 1, 1) := by decide +kernel
theorem dX9_isFair_41 : decode cX9_isFair 41 = .ok (.imul, 1) := by decide +kernel
theorem dX9_isFair_42 : decode cX9_isFair 42 = .ok (.iload 4, 2) := by decide +kernel
theorem dX9_isFair_44 : decode cX9_isFair 44 = .ok (.iadd, 1) := by decide +kernel
theorem dX9_isFair_45 : decode cX9_isFair 45 = .ok (.iaload, 1) := by decide +kernel
theorem dX9_isFair_46 : decode cX9_isFair 46 = .ok (.if_icmp .eq 7, 3) := by decide +kernel
theorem dX9_isFair_49 : decode cX9_isFair 49 = .ok (.iconst 1, 1) := by decide +kernel
theorem dX9_isFair_50 : decode cX9_isFair 50 = .ok (.goto 4, 3) := by decide +kernel
theorem dX9_isFair_53 : decode cX9_isFair 53 = .ok (.iconst 0, 1) := by decide +kernel
theorem dX9_isFair_54 : decode cX9_isFair 54 = .ok (.istore_n 2, 1) := by decide +kernel
theorem dX9_isFair_55 : decode cX9_isFair 55 = .ok (.iinc 4 1, 3) := by decide +kernel
theorem dX9_isFair_58 : decode cX9_isFair 58 = .ok (.goto (-43), 3) := by decide +kernel
theorem dX9_isFair_61 : decode cX9_isFair 61 = .ok (.iinc 3 1, 3) := by decide +kernel
theorem dX9_isFair_64 : decode cX9_isFair 64 = .ok (.goto (-60), 3) := by decide +kernel
theorem dX9_isFair_67 : decode cX9_isFair 67 = .ok (.iload_n 2, 1) := by decide +kernel
theorem dX9_isFair_68 : decode cX9_isFair 68 = .ok (.ireturn, 1) := by decide +kernel
theorem dX9_isBack_0 : decode cX9_isBack 0 = .ok (.iconst 0, 1) := by decide +kernel
theorem dX9_isBack_1 : decode cX9_isBack 1 = .ok (.istore_n 2, 1) := by decide +kernel
theorem dX9_isBack_2 : decode cX9_isBack 2 = .ok (.iload_n 2, 1) := by decide +kernel
theorem dX9_isBack_3 : decode cX9_isBack 3 = .ok (.bipush 8, 2) := by decide +kernel
theorem dX9_isBack_5 : decode cX9_isBack 5 = .ok (.if_icmp .ge 25, 3) := by decide +kernel
theorem dX9_isBack_8 : decode cX9_isBack 8 = .ok (.aload_n 0, 1) := by decide +kernel
theorem dX9_isBack_9 : decode cX9_isBack 9 = .ok (.getfield 35, 3) := by decide +kernel
theorem dX9_isBack_12 : decode cX9_isBack 12 = .ok (.iload_n 2, 1) := by decide +kernel
theorem dX9_isBack_13 : decode cX9_isBack 13 = .ok (.iload_n 2, 1) := by decide +kernel
theorem dX9_isBack_14 : decode cX9_isBack 14 = .ok (.iload_n 1, 1) := by decide +kernel
theorem dX9_isBack_15 : decode cX9_isBack 15 = .ok (.if_icmp .ne 7, 3) := by decide +kernel
theorem dX9_isBack_18 : decode cX9_isBack 18 = .ok (.iconst 1, 1) := by decide +kernel
theorem dX9_isBack_19 : decode cX9_isBack 19 = .ok (.goto 4, 3) := by decide +kernel
theorem dX9_isBack_22 : decode cX9_isBack 22 = .ok (.iconst 0, 1) := by decide +kernel
theorem dX9_isBack_23 : decode cX9_isBack 23 = .ok (.bastore, 1) := by decide +kernel
theorem dX9_isBack_24 : decode cX9_isBack 24 = .ok (.iinc 2 1, 3) := by decide +kernel
theorem dX9_isBack_27 : decode cX9_isBack 27 = .ok (.goto (-25), 3) := by decide +kernel
theorem dX9_isBack_30 : decode cX9_isBack 30 = .ok (.iconst 0, 1) := by decide +kernel
theorem dX9_isBack_31 : decode cX9_isBack 31 = .ok (.istore_n 2, 1) := by decide +kernel
theorem dX9_isBack_32 : decode cX9_isBack 32 = .ok (.iload_n 2, 1) := by decide +kernel
theorem dX9_isBack_33 : decode cX9_isBack 33 = .ok (.bipush 8, 2) := by decide +kernel
theorem dX9_isBack_35 : decode cX9_isBack 35 = .ok (.if_icmp .ge 89, 3) := by decide +kernel
theorem dX9_isBack_38 : decode cX9_isBack 38 = .ok (.iconst 0, 1) := by decide +kernel
theorem dX9_isBack_39 : decode cX9_isBack 39 = .ok (.istore_n 3, 1) := by decide +kernel
theorem dX9_isBack_40 : decode cX9_isBack 40 = .ok (.iload_n 3, 1) := by decide +kernel
theorem dX9_isBack_41 : decode cX9_isBack 41 = .ok (.bipush 8, 2) := by decide +kernel
theorem dX9_isBack_43 : decode cX9_isBack 43 = .ok (.if_icmp .ge 75, 3) := by decide +kernel
theorem dX9_isBack_46 : decode cX9_isBack 46 = .ok (.iconst 0, 1) := by decide +kernel
theorem dX9_isBack_47 : decode cX9_isBack 47 = .ok (.istore 4, 2) := by decide +kernel
theorem dX9_isBack_49 : decode cX9_isBack 49 = .ok (.iload 4, 2) := by decide +kernel
theorem dX9_isBack_51 : decode cX9_isBack 51 = .ok (.aload_n 0, 1) := by decide +kernel
theorem dX9_isBack_52 : decode cX9_isBack 52 = .ok (.getfield 19, 3) := by decide +kernel
theorem dX9_isBack_55 : decode cX9_isBack 55 = .ok (.if_icmp .ge 57, 3) := by decide +kernel
theorem dX9_isBack_58 : decode cX9_isBack 58 = .ok (.aload_n 0, 1) := by decide +kernel
theorem dX9_isBack_59 : decode cX9_isBack 59 = .ok (.getfield 35, 3) := by decide +kernel
theorem dX9_isBack_62 : decode cX9_isBack 62 = .ok (.iload_n 3, 1) := by decide +kernel
theorem dX9_isBack_63 : decode cX9_isBack 63 = .ok (.baload, 1) := by decide +kernel
theorem dX9_isBack_64 : decode cX9_isBack 64 = .ok (.ifCond .eq 48, 3) := by decide +kernel
theorem dX9_isBack_67 : decode cX9_isBack 67 = .ok (.iload_n 3, 1) := by decide +kernel
theorem dX9_isBack_68 : decode cX9_isBack 68 = .ok (.aload_n 0, 1) := by decide +kernel
theorem dX9_isBack_69 : decode cX9_isBack 69 = .ok (.getfield 116, 3) := by decide +kernel
theorem dX9_isBack_72 : decode cX9_isBack 72 = .ok (.if_icmp .ge 40, 3) := by decide +kernel
theorem dX9_isBack_75 : decode cX9_isBack 75 = .ok (.aload_n 0, 1) := by decide +kernel
theorem dX9_isBack_76 : decode cX9_isBack 76 = .ok (.getfield 26, 3) := by decide +kernel
theorem dX9_isBack_79 : decode cX9_isBack 79 = .ok (.iconst 4, 1) := by decide +kernel
theorem dX9_isBack_80 : decode cX9_isBack 80 = .ok (.iload_n 3, 1) := by decide +kernel
theorem dX9_isBack_81 : decode cX9_isBack 81 = .ok (.imul, 1) := by decide +kernel
theorem dX9_isBack_82 : decode cX9_isBack 82 = .ok (.iload 4, 2) := by decide +kernel
theorem dX9_isBack_84 : decode cX9_isBack 84 = .ok (.iadd, 1) := by decide +kernel
theorem dX9_isBack_85 : decode cX9_isBack 85 = .ok (.iaload, 1) := by decide +kernel
theorem dX9_isBack_86 : decode cX9_isBack 86 = .ok (.ifCond .lt 20, 3) := by decide +kernel
theorem dX9_isBack_89 : decode cX9_isBack 89 = .ok (.aload_n 0, 1) := by decide +kernel
theorem dX9_isBack_90 : decode cX9_isBack 90 = .ok (.getfield 35, 3) := by decide +kernel
theorem dX9_isBack_93 : decode cX9_isBack 93 = .ok (.aload_n 0, 1) := by decide +kernel
theorem dX9_isBack_94 : decode cX9_isBack 94 = .ok (.getfield 26, 3) := by decide +kernel
theorem dX9_isBack_97 : decode cX9_isBack 97 = .ok (.iconst 4, 1) := by decide +kernel
theorem dX9_isBack_98 : decode cX9_isBack 98 = .ok (.iload_n 3, 1) := by decide +kernel
theorem dX9_isBack_99 : decode cX9_isBack 99 = .ok (.imul, 1) := by decide +kernel
theorem dX9_isBack_100 : decode cX9_isBack 100 = .ok (.iload 4, 2) := by decide +kernel
theorem dX9_isBack_102 : decode cX9_isBack 102 = .ok (.iadd, 1) := by decide +kernel
theorem dX9_isBack_103 : decode cX9_isBack 103 = .ok (.iaload, 1) := by decide +kernel
theorem dX9_isBack_104 : decode cX9_isBack 104 = .ok (.iconst 1, 1) := by decide +kernel
theorem dX9_isBack_105 : decode cX9_isBack 105 = .ok (.bastore, 1) := by decide +kernel
theorem dX9_isBack_106 : decode cX9_isBack 106 = .ok (.iinc 4 1, 3) := by decide +kernel
theorem dX9_isBack_109 : decode cX9_isBack 109 = .ok (.goto (-60), 3) := by decide +kernel
theorem dX9_isBack_112 : decode cX9_isBack 112 = .ok (.iinc 3 1, 3) := by decide +kernel
theorem dX9_isBack_115 : decode cX9_isBack 115 = .ok (.goto (-75), 3) := by decide +kernel
theorem dX9_isBack_118 : decode cX9_isBack 118 = .ok (.iinc 2 1, 3) := by decide +kernel
theorem dX9_isBack_121 : decode cX9_isBack 121 = .ok (.goto (-89), 3) := by decide +kernel
theorem dX9_isBack_124 : decode cX9_isBack 124 = .ok (.iconst 1, 1) := by decide +kernel
theorem dX9_isBack_125 : decode cX9_isBack 125 = .ok (.istore_n 2, 1) := by decide +kernel
theorem dX9_isBack_126 : decode cX9_isBack 126 = .ok (.iconst 0, 1) := by decide +kernel
theorem dX9_isBack_127 : decode cX9_isBack 127 = .ok (.istore_n 3, 1) := by decide +kernel
theorem dX9_isBack_128 : decode cX9_isBack 128 = .ok (.iload_n 3, 1) := by decide +kernel
theorem dX9_isBack_129 : decode cX9_isBack 129 = .ok (.bipush 8, 2) := by decide +kernel
theorem dX9_isBack_131 : decode cX9_isBack 131 = .ok (.if_icmp .ge 44, 3) := by decide +kernel
theorem dX9_isBack_134 : decode cX9_isBack 134 = .ok (.iload_n 2, 1) := by decide +kernel
theorem dX9_isBack_135 : decode cX9_isBack 135 = .ok (.ifCond .eq 32, 3) := by decide +kernel
theorem dX9_isBack_138 : decode cX9_isBack 138 = .ok (.aload_n 0, 1) := by decide +kernel
theorem dX9_isBack_139 : decode cX9_isBack 139 = .ok (.getfield 35, 3) := by decide +kernel
theorem dX9_isBack_142 : decode cX9_isBack 142 = .ok (.iload_n 3, 1) := by decide +kernel
theorem dX9_isBack_143 : decode cX9_isBack 143 = .ok (.baload, 1) := by decide +kernel
theorem dX9_isBack_144 : decode cX9_isBack 144 = .ok (.ifCond .eq 19, 3) := by decide +kernel
theorem dX9_isBack_147 : decode cX9_isBack 147 = .ok (.iload_n 3, 1) := by decide +kernel
theorem dX9_isBack_148 : decode cX9_isBack 148 = .ok (.aload_n 0, 1) := by decide +kernel
theorem dX9_isBack_149 : decode cX9_isBack 149 = .ok (.getfield 116, 3) := by decide +kernel
theorem dX9_isBack_152 : decode cX9_isBack 152 = .ok (.if_icmp .ge 15, 3) := by decide +kernel
theorem dX9_isBack_155 : decode cX9_isBack 155 = .ok (.aload_n 0, 1) := by decide +kernel
theorem dX9_isBack_156 : decode cX9_isBack 156 = .ok (.iload_n 3, 1) := by decide +kernel
theorem dX9_isBack_157 : decode cX9_isBack 157 = .ok (.invokevirtual 121, 3) := by decide +kernel
theorem dX9_isBack_160 : decode cX9_isBack 160 = .ok (.ifCond .eq 7, 3) := by decide +kernel
theorem dX9_isBack_163 : decode cX9_isBack 163 = .ok (.iconst 1, 1) := by decide +kernel
theorem dX9_isBack_164 : decode cX9_isBack 164 = .ok (.goto 4, 3) := by decide +kernel
theorem dX9_isBack_167 : decode cX9_isBack 167 = .ok (.iconst 0, 1) := by decide +kernel
theorem dX9_isBack_168 : decode cX9_isBack 168 = .ok (.istore_n 2, 1) := by decide +kernel
theorem dX9_isBack_169 : decode cX9_isBack 169 = .ok (.iinc 3 1, 3) := by decide +kernel
theorem dX9_isBack_172 : decode cX9_isBack 172 = .ok (.goto (-44), 3) := by decide +kernel
theorem dX9_isBack_175 : decode cX9_isBack 175 = .ok (.iload_n 2, 1) := by decide +kernel
theorem dX9_isBack_176 : decode cX9_isBack 176 = .ok (.ireturn, 1) := by decide +kernel
theorem dX9_change_0 : decode cX9_change 0 = .ok (.iload_n 1, 1) := by decide +kernel
theorem dX9_change_1 : decode cX9_change 1 = .ok (.i2l, 1) := by decide +kernel
theorem dX9_change_2 : decode cX9_change 2 = .ok (.lconst 0, 1) := by decide +kernel
theorem dX9_change_3 : decode cX9_change 3 = .ok (.aload_n 0, 1) := by decide +kernel
theorem dX9_change_4 : decode cX9_change 4 = .ok (.getfield 116, 3) := by decide +kernel
theorem dX9_change_7 : decode cX9_change 7 = .ok (.iconst 1, 1) := by decide +kernel
theorem dX9_change_8 : decode cX9_change 8 = .ok (.isub, 1) := by decide +kernel
theorem dX9_change_9 : decode cX9_change 9 = .ok (.i2l, 1) := by decide +kernel
theorem dX9_change_10 : decode cX9_change 10 = .ok (.invokestatic 99, 3) := by decide +kernel
theorem dX9_change_13 : decode cX9_change 13 = .ok (.ifCond .eq 50, 3) := by decide +kernel
theorem dX9_change_16 : decode cX9_change 16 = .ok (.iload_n 2, 1) := by decide +kernel
theorem dX9_change_17 : decode cX9_change 17 = .ok (.i2l, 1) := by decide +kernel
theorem dX9_change_18 : decode cX9_change 18 = .ok (.lconst 0, 1) := by decide +kernel
theorem dX9_change_19 : decode cX9_change 19 = .ok (.aload_n 0, 1) := by decide +kernel
theorem dX9_change_20 : decode cX9_change 20 = .ok (.getfield 19, 3) := by decide +kernel
theorem dX9_change_23 : decode cX9_change 23 = .ok (.iconst 1, 1) := by decide +kernel
theorem dX9_change_24 : decode cX9_change 24 = .ok (.isub, 1) := by decide +kernel
theorem dX9_change_25 : decode cX9_change 25 = .ok (.i2l, 1) := by decide +kernel
theorem dX9_change_26 : decode cX9_change 26 = .ok (.invokestatic 99, 3) := by decide +kernel
theorem dX9_change_29 : decode cX9_change 29 = .ok (.ifCond .eq 34, 3) := by decide +kernel
theorem dX9_change_32 : decode cX9_change 32 = .ok (.iload_n 3, 1) := by decide +kernel
theorem dX9_change_33 : decode cX9_change 33 = .ok (.i2l, 1) := by decide +kernel
theorem dX9_change_34 : decode cX9_change 34 = .ok (.lconst 0, 1) := by decide +kernel
theorem dX9_change_35 : decode cX9_change 35 = .ok (.aload_n 0, 1) := by decide +kernel
theorem dX9_change_36 : decode cX9_change 36 = .ok (.getfield 19, 3) := by decide +kernel
theorem dX9_change_39 : decode cX9_change 39 = .ok (.iconst 1, 1) := by decide +kernel
theorem dX9_change_40 : decode cX9_change 40 = .ok (.isub, 1) := by decide +kernel
theorem dX9_change_41 : decode cX9_change 41 = .ok (.i2l, 1) := by decide +kernel
theorem dX9_change_42 : decode cX9_change 42 = .ok (.invokestatic 99, 3) := by decide +kernel
theorem dX9_change_45 : decode cX9_change 45 = .ok (.ifCond .eq 18, 3) := by decide +kernel
theorem dX9_change_48 : decode cX9_change 48 = .ok (.iload 4, 2) := by decide +kernel
theorem dX9_change_50 : decode cX9_change 50 = .ok (.i2l, 1) := by decide +kernel
theorem dX9_change_51 : decode cX9_change 51 = .ok (.ldc2_w 119, 3) := by decide +kernel
theorem dX9_change_54 : decode cX9_change 54 = .ok (.ldc2_w 103, 3) := by decide +kernel
theorem dX9_change_57 : decode cX9_change 57 = .ok (.invokestatic 99, 3) := by decide +kernel
theorem dX9_change_60 : decode cX9_change 60 = .ok (.ifCond .ne 5, 3) := by decide +kernel
theorem dX9_change_63 : decode cX9_change 63 = .ok (.iconst (-1), 1) := by decide +kernel
theorem dX9_change_64 : decode cX9_change 64 = .ok (.ireturn, 1) := by decide +kernel
theorem dX9_change_65 : decode cX9_change 65 = .ok (.aload_n 0, 1) := by decide +kernel
theorem dX9_change_66 : decode cX9_change 66 = .ok (.getfield 23, 3) := by decide +kernel
theorem dX9_change_69 : decode cX9_change 69 = .ok (.iconst 4, 1) := by decide +kernel
theorem dX9_change_70 : decode cX9_change 70 = .ok (.iload_n 1, 1) := by decide +kernel
theorem dX9_change_71 : decode cX9_change 71 = .ok (.imul, 1) := by decide +kernel
theorem dX9_change_72 : decode cX9_change 72 = .ok (.iload_n 2, 1) := by decide +kernel
theorem dX9_change_73 : decode cX9_change 73 = .ok (.iadd, 1) := by decide +kernel
theorem dX9_change_74 : decode cX9_change 74 = .ok (.iload_n 3, 1) := by decide +kernel
theorem dX9_change_75 : decode cX9_change 75 = .ok (.iastore, 1) := by decide +kernel
theorem dX9_change_76 : decode cX9_change 76 = .ok (.aload_n 0, 1) := by decide +kernel
theorem dX9_change_77 : decode cX9_change 77 = .ok (.getfield 26, 3) := by decide +kernel
theorem dX9_change_80 : decode cX9_change 80 = .ok (.iconst 4, 1) := by decide +kernel
theorem dX9_change_81 : decode cX9_change 81 = .ok (.iload_n 1, 1) := by decide +kernel
theorem dX9_change_82 : decode cX9_change 82 = .ok (.imul, 1) := by decide +kernel
theorem dX9_change_83 : decode cX9_change 83 = .ok (.iload_n 2, 1) := by decide +kernel
theorem dX9_change_84 : decode cX9_change 84 = .ok (.iadd, 1) := by decide +kernel
theorem dX9_change_85 : decode cX9_change 85 = .ok (.iload 4, 2) := by decide +kernel
theorem dX9_change_87 : decode cX9_change 87 = .ok (.iastore, 1) := by decide +kernel
theorem dX9_change_88 : decode cX9_change 88 = .ok (.iconst 0, 1) := by decide +kernel
theorem dX9_change_89 : decode cX9_change 89 = .ok (.istore 5, 2) := by decide +kernel
theorem dX9_change_91 : decode cX9_change 91 = .ok (.iload 5, 2) := by decide +kernel
theorem dX9_change_93 : decode cX9_change 93 = .ok (.bipush 8, 2) := by decide +kernel
theorem dX9_change_95 : decode cX9_change 95 = .ok (.if_icmp .ge 100, 3) := by decide +kernel
theorem dX9_change_98 : decode cX9_change 98 = .ok (.iconst 1, 1) := by decide +kernel
theorem dX9_change_99 : decode cX9_change 99 = .ok (.istore 6, 2) := by decide +kernel
theorem dX9_change_101 : decode cX9_change 101 = .ok (.iconst 0, 1) := by decide +kernel
theorem dX9_change_102 : decode cX9_change 102 = .ok (.istore 7, 2) := by decide +kernel
theorem dX9_change_104 : decode cX9_change 104 = .ok (.iload 7, 2) := by decide +kernel
theorem dX9_change_106 : decode cX9_change 106 = .ok (.aload_n 0, 1) := by decide +kernel
theorem dX9_change_107 : decode cX9_change 107 = .ok (.getfield 32, 3) := by decide +kernel
theorem dX9_change_110 : decode cX9_change 110 = .ok (.iload 5, 2) := by decide +kernel
theorem dX9_change_112 : decode cX9_change 112 = .ok (.iaload, 1) := by decide +kernel
theorem dX9_change_113 : decode cX9_change 113 = .ok (.if_icmp .ge 53, 3) := by decide +kernel
theorem dX9_change_116 : decode cX9_change 116 = .ok (.aload_n 0, 1) := by decide +kernel
theorem dX9_change_117 : decode cX9_change 117 = .ok (.getfield 29, 3) := by decide +kernel
theorem dX9_change_120 : decode cX9_change 120 = .ok (.bipush 34, 2) := by decide +kernel
theorem dX9_change_122 : decode cX9_change 122 = .ok (.iload 5, 2) := by decide +kernel
theorem dX9_change_124 : decode cX9_change 124 = .ok (.imul, 1) := by decide +kernel
theorem dX9_change_125 : decode cX9_change 125 = .ok (.iload 7, 2) := by decide +kernel
theorem dX9_change_127 : decode cX9_change 127 = .ok (.iadd, 1) := by decide +kernel
theorem dX9_change_128 : decode cX9_change 128 = .ok (.iaload, 1) := by decide +kernel
theorem dX9_change_129 : decode cX9_change 129 = .ok (.istore 8, 2) := by decide +kernel
theorem dX9_change_131 : decode cX9_change 131 = .ok (.iload 6, 2) := by decide +kernel
theorem dX9_change_133 : decode cX9_change 133 = .ok (.ifCond .eq 24, 3) := by decide +kernel
theorem dX9_change_136 : decode cX9_change 136 = .ok (.iload 8, 2) := by decide +kernel
theorem dX9_change_138 : decode cX9_change 138 = .ok (.ifCond .gt 15, 3) := by decide +kernel
theorem dX9_change_141 : decode cX9_change 141 = .ok (.aload_n 0, 1) := by decide +kernel
theorem dX9_change_142 : decode cX9_change 142 = .ok (.iload 8, 2) := by decide +kernel
theorem dX9_change_144 : decode cX9_change 144 = .ok (.ineg, 1) := by decide +kernel
theorem dX9_change_145 : decode cX9_change 145 = .ok (.iconst 1, 1) := by decide +kernel
theorem dX9_change_146 : decode cX9_change 146 = .ok (.isub, 1) := by decide +kernel
theorem dX9_change_147 : decode cX9_change 147 = .ok (.invokevirtual 124, 3) := by decide +kernel
theorem dX9_change_150 : decode cX9_change 150 = .ok (.ifCond .eq 7, 3) := by decide +kernel
theorem dX9_change_153 : decode cX9_change 153 = .ok (.iconst 1, 1) := by decide +kernel
theorem dX9_change_154 : decode cX9_change 154 = .ok (.goto 4, 3) := by decide +kernel
theorem dX9_change_157 : decode cX9_change 157 = .ok (.iconst 0, 1) := by decide +kernel
theorem dX9_change_158 : decode cX9_change 158 = .ok (.istore 6, 2) := by decide +kernel
theorem dX9_change_160 : decode cX9_change 160 = .ok (.iinc 7 1, 3) := by decide +kernel
theorem dX9_change_163 : decode cX9_change 163 = .ok (.goto (-59), 3) := by decide +kernel
theorem dX9_change_166 : decode cX9_change 166 = .ok (.aload_n 0, 1) := by decide +kernel
theorem dX9_change_167 : decode cX9_change 167 = .ok (.getfield 32, 3) := by decide +kernel
theorem dX9_change_170 : decode cX9_change 170 = .ok (.iload 5, 2) := by decide +kernel
theorem dX9_change_172 : decode cX9_change 172 = .ok (.iload 6, 2) := by decide +kernel
theorem dX9_change_174 : decode cX9_change 174 = .ok (.ifCond .eq 13, 3) := by decide +kernel
theorem dX9_change_177 : decode cX9_change 177 = .ok (.aload_n 0, 1) := by decide +kernel
theorem dX9_change_178 : decode cX9_change 178 = .ok (.getfield 32, 3) := by decide +kernel
theorem dX9_change_181 : decode cX9_change 181 = .ok (.iload 5, 2) := by decide +kernel
theorem dX9_change_183 : decode cX9_change 183 = .ok (.iaload, 1) := by decide +kernel
theorem dX9_change_184 : decode cX9_change 184 = .ok (.goto 4, 3) := by decide +kernel
theorem dX9_change_187 : decode cX9_change 187 = .ok (.iconst 0, 1) := by decide +kernel
theorem dX9_change_188 : decode cX9_change 188 = .ok (.iastore, 1) := by decide +kernel
theorem dX9_change_189 : decode cX9_change 189 = .ok (.iinc 5 1, 3) := by decide +kernel
theorem dX9_change_192 : decode cX9_change 192 = .ok (.goto (-101), 3) := by decide +kernel
theorem dX9_change_195 : decode cX9_change 195 = .ok (.iconst 1, 1) := by decide +kernel
theorem dX9_change_196 : decode cX9_change 196 = .ok (.ireturn, 1) := by decide +kernel
theorem dX9_of_0 : decode cX9_of 0 = .ok (.iload_n 1, 1) := by decide +kernel
theorem dX9_of_1 : decode cX9_of 1 = .ok (.i2l, 1) := by decide +kernel
theorem dX9_of_2 : decode cX9_of 2 = .ok (.lconst 0, 1) := by decide +kernel
theorem dX9_of_3 : decode cX9_of 3 = .ok (.aload_n 0, 1) := by decide +kernel
theorem dX9_of_4 : decode cX9_of 4 = .ok (.getfield 116, 3) := by decide +kernel
theorem dX9_of_7 : decode cX9_of 7 = .ok (.iconst 1, 1) := by decide +kernel
theorem dX9_of_8 : decode cX9_of 8 = .ok (.isub, 1) := by decide +kernel
theorem dX9_of_9 : decode cX9_of 9 = .ok (.i2l, 1) := by decide +kernel
theorem dX9_of_10 : decode cX9_of 10 = .ok (.invokestatic 99, 3) := by decide +kernel
theorem dX9_of_13 : decode cX9_of 13 = .ok (.ifCond .eq 36, 3) := by decide +kernel
theorem dX9_of_16 : decode cX9_of 16 = .ok (.iload_n 3, 1) := by decide +kernel
theorem dX9_of_17 : decode cX9_of 17 = .ok (.i2l, 1) := by decide +kernel
theorem dX9_of_18 : decode cX9_of 18 = .ok (.lconst 0, 1) := by decide +kernel
theorem dX9_of_19 : decode cX9_of 19 = .ok (.ldc2_w 109, 3) := by decide +kernel
theorem dX9_of_22 : decode cX9_of 22 = .ok (.invokestatic 99, 3) := by decide +kernel
theorem dX9_of_25 : decode cX9_of 25 = .ok (.ifCond .eq 24, 3) := by decide +kernel
theorem dX9_of_28 : decode cX9_of 28 = .ok (.iload_n 3, 1) := by decide +kernel
theorem dX9_of_29 : decode cX9_of 29 = .ok (.iconst 2, 1) := by decide +kernel
theorem dX9_of_30 : decode cX9_of 30 = .ok (.if_icmp .ge 22, 3) := by decide +kernel
theorem dX9_of_33 : decode cX9_of 33 = .ok (.iload_n 2, 1) := by decide +kernel
theorem dX9_of_34 : decode cX9_of 34 = .ok (.i2l, 1) := by decide +kernel
theorem dX9_of_35 : decode cX9_of 35 = .ok (.lconst 0, 1) := by decide +kernel
theorem dX9_of_36 : decode cX9_of 36 = .ok (.aload_n 0, 1) := by decide +kernel
theorem dX9_of_37 : decode cX9_of 37 = .ok (.getfield 19, 3) := by decide +kernel
theorem dX9_of_40 : decode cX9_of 40 = .ok (.iconst 1, 1) := by decide +kernel
theorem dX9_of_41 : decode cX9_of 41 = .ok (.isub, 1) := by decide +kernel
theorem dX9_of_42 : decode cX9_of 42 = .ok (.i2l, 1) := by decide +kernel
theorem dX9_of_43 : decode cX9_of 43 = .ok (.invokestatic 99, 3) := by decide +kernel
theorem dX9_of_46 : decode cX9_of 46 = .ok (.ifCond .ne 6, 3) := by decide +kernel
theorem dX9_of_49 : decode cX9_of 49 = .ok (.bipush (-2), 2) := by decide +kernel
theorem dX9_of_51 : decode cX9_of 51 = .ok (.ireturn, 1) := by decide +kernel
theorem dX9_of_52 : decode cX9_of 52 = .ok (.iload_n 3, 1) := by decide +kernel
theorem dX9_of_53 : decode cX9_of 53 = .ok (.ifCond .ne 16, 3) := by decide +kernel
theorem dX9_of_56 : decode cX9_of 56 = .ok (.aload_n 0, 1) := by decide +kernel
theorem dX9_of_57 : decode cX9_of 57 = .ok (.getfield 23, 3) := by decide +kernel
theorem dX9_of_60 : decode cX9_of 60 = .ok (.iconst 4, 1) := by decide +kernel
theorem dX9_of_61 : decode cX9_of 61 = .ok (.iload_n 1, 1) := by decide +kernel
theorem dX9_of_62 : decode cX9_of 62 = .ok (.imul, 1) := by decide +kernel
theorem dX9_of_63 : decode cX9_of 63 = .ok (.iload_n 2, 1) := by decide +kernel
theorem dX9_of_64 : decode cX9_of 64 = .ok (.iadd, 1) := by decide +kernel
theorem dX9_of_65 : decode cX9_of 65 = .ok (.iaload, 1) := by decide +kernel
theorem dX9_of_66 : decode cX9_of 66 = .ok (.goto 34, 3) := by decide +kernel
theorem dX9_of_69 : decode cX9_of 69 = .ok (.iload_n 3, 1) := by decide +kernel
theorem dX9_of_70 : decode cX9_of 70 = .ok (.iconst 1, 1) := by decide +kernel
theorem dX9_of_71 : decode cX9_of 71 = .ok (.if_icmp .ne 16, 3) := by decide +kernel
theorem dX9_of_74 : decode cX9_of 74 = .ok (.aload_n 0, 1) := by decide +kernel
theorem dX9_of_75 : decode cX9_of 75 = .ok (.getfield 26, 3) := by decide +kernel
theorem dX9_of_78 : decode cX9_of 78 = .ok (.iconst 4, 1) := by decide +kernel
theorem dX9_of_79 : decode cX9_of 79 = .ok (.iload_n 1, 1) := by decide +kernel
theorem dX9_of_80 : decode cX9_of 80 = .ok (.imul, 1) := by decide +kernel
theorem dX9_of_81 : decode cX9_of 81 = .ok (.iload_n 2, 1) := by decide +kernel
theorem dX9_of_82 : decode cX9_of 82 = .ok (.iadd, 1) := by decide +kernel
theorem dX9_of_83 : decode cX9_of 83 = .ok (.iaload, 1) := by decide +kernel
theorem dX9_of_84 : decode cX9_of 84 = .ok (.goto 16, 3) := by decide +kernel
theorem dX9_of_87 : decode cX9_of 87 = .ok (.aload_n 0, 1) := by decide +kernel
theorem dX9_of_88 : decode cX9_of 88 = .ok (.iload_n 1, 1) := by decide +kernel
theorem dX9_of_89 : decode cX9_of 89 = .ok (.invokevirtual 124, 3) := by decide +kernel
theorem dX9_of_92 : decode cX9_of 92 = .ok (.ifCond .eq 7, 3) := by decide +kernel
theorem dX9_of_95 : decode cX9_of 95 = .ok (.iconst 1, 1) := by decide +kernel
theorem dX9_of_96 : decode cX9_of 96 = .ok (.goto 4, 3) := by decide +kernel
theorem dX9_of_99 : decode cX9_of 99 = .ok (.iconst 0, 1) := by decide +kernel
theorem dX9_of_100 : decode cX9_of 100 = .ok (.ireturn, 1) := by decide +kernel
theorem dX9_isWhole_0 : decode cX9_isWhole 0 = .ok (.iconst 1, 1) := by decide +kernel
theorem dX9_isWhole_1 : decode cX9_isWhole 1 = .ok (.istore_n 1, 1) := by decide +kernel
theorem dX9_isWhole_2 : decode cX9_isWhole 2 = .ok (.iconst 0, 1) := by decide +kernel
theorem dX9_isWhole_3 : decode cX9_isWhole 3 = .ok (.istore_n 2, 1) := by decide +kernel
theorem dX9_isWhole_4 : decode cX9_isWhole 4 = .ok (.iload_n 2, 1) := by decide +kernel
theorem dX9_isWhole_5 : decode cX9_isWhole 5 = .ok (.aload_n 0, 1) := by decide +kernel
theorem dX9_isWhole_6 : decode cX9_isWhole 6 = .ok (.getfield 116, 3) := by decide +kernel
theorem dX9_isWhole_9 : decode cX9_isWhole 9 = .ok (.if_icmp .ge 52, 3) := by decide +kernel
theorem dX9_isWhole_12 : decode cX9_isWhole 12 = .ok (.iconst 0, 1) := by decide +kernel
theorem dX9_isWhole_13 : decode cX9_isWhole 13 = .ok (.istore_n 3, 1) := by decide +kernel
theorem dX9_isWhole_14 : decode cX9_isWhole 14 = .ok (.iload_n 3, 1) := by decide +kernel
theorem dX9_isWhole_15 : decode cX9_isWhole 15 = .ok (.aload_n 0, 1) := by decide +kernel
theorem dX9_isWhole_16 : decode cX9_isWhole 16 = .ok (.getfield 19, 3) := by decide +kernel
theorem dX9_isWhole_19 : decode cX9_isWhole 19 = .ok (.if_icmp .ge 36, 3) := by decide +kernel
theorem dX9_isWhole_22 : decode cX9_isWhole 22 = .ok (.iload_n 1, 1) := by decide +kernel
theorem dX9_isWhole_23 : decode cX9_isWhole 23 = .ok (.ifCond .eq 24, 3) := by decide +kernel
theorem dX9_isWhole_26 : decode cX9_isWhole 26 = .ok (.aload_n 0, 1) := by decide +kernel
theorem dX9_isWhole_27 : decode cX9_isWhole 27 = .ok (.getfield 26, 3) := by decide +kernel
theorem dX9_isWhole_30 : decode cX9_isWhole 30 = .ok (.iconst 4, 1) := by decide +kernel
theorem dX9_isWhole_31 : decode cX9_isWhole 31 = .ok (.iload_n 2, 1) := by decide +kernel
theorem dX9_isWhole_32 : decode cX9_isWhole 32 = .ok (.imul, 1) := by decide +kernel
theorem dX9_isWhole_33 : decode cX9_isWhole 33 = .ok (.iload_n 3, 1) := by decide +kernel
theorem dX9_isWhole_34 : decode cX9_isWhole 34 = .ok (.iadd, 1) := by decide +kernel
theorem dX9_isWhole_35 : decode cX9_isWhole 35 = .ok (.iaload, 1) := by decide +kernel
theorem dX9_isWhole_36 : decode cX9_isWhole 36 = .ok (.aload_n 0, 1) := by decide +kernel
theorem dX9_isWhole_37 : decode cX9_isWhole 37 = .ok (.getfield 116, 3) := by decide +kernel
theorem dX9_isWhole_40 : decode cX9_isWhole 40 = .ok (.if_icmp .ge 7, 3) := by decide +kernel
theorem dX9_isWhole_43 : decode cX9_isWhole 43 = .ok (.iconst 1, 1) := by decide +kernel
theorem dX9_isWhole_44 : decode cX9_isWhole 44 = .ok (.goto 4, 3) := by decide +kernel
theorem dX9_isWhole_47 : decode cX9_isWhole 47 = .ok (.iconst 0, 1) := by decide +kernel
theorem dX9_isWhole_48 : decode cX9_isWhole 48 = .ok (.istore_n 1, 1) := by decide +kernel
theorem dX9_isWhole_49 : decode cX9_isWhole 49 = .ok (.iinc 3 1, 3) := by decide +kernel
theorem dX9_isWhole_52 : decode cX9_isWhole 52 = .ok (.goto (-38), 3) := by decide +kernel
theorem dX9_isWhole_55 : decode cX9_isWhole 55 = .ok (.iinc 2 1, 3) := by decide +kernel
theorem dX9_isWhole_58 : decode cX9_isWhole 58 = .ok (.goto (-54), 3) := by decide +kernel
theorem dX9_isWhole_61 : decode cX9_isWhole 61 = .ok (.iload_n 1, 1) := by decide +kernel
theorem dX9_isWhole_62 : decode cX9_isWhole 62 = .ok (.ireturn, 1) := by decide +kernel
theorem dX9_findTokens_0 : decode cX9_findTokens 0 = .ok (.aload_n 0, 1) := by decide +kernel
theorem dX9_findTokens_1 : decode cX9_findTokens 1 = .ok (.iconst 0, 1) := by decide +kernel
theorem dX9_findTokens_2 : decode cX9_findTokens 2 = .ok (.putfield 127, 3) := by decide +kernel
theorem dX9_findTokens_5 : decode cX9_findTokens 5 = .ok (.iconst 0, 1) := by decide +kernel
theorem dX9_findTokens_6 : decode cX9_findTokens 6 = .ok (.istore_n 1, 1) := by decide +kernel
theorem dX9_findTokens_7 : decode cX9_findTokens 7 = .ok (.iload_n 1, 1) := by decide +kernel
theorem dX9_findTokens_8 : decode cX9_findTokens 8 = .ok (.aload_n 0, 1) := by decide +kernel
theorem dX9_findTokens_9 : decode cX9_findTokens 9 = .ok (.getfield 116, 3) := by decide +kernel
theorem dX9_findTokens_12 : decode cX9_findTokens 12 = .ok (.if_icmp .ge 62, 3) := by decide +kernel
theorem dX9_findTokens_15 : decode cX9_findTokens 15 = .ok (.aload_n 0, 1) := by decide +kernel
theorem dX9_findTokens_16 : decode cX9_findTokens 16 = .ok (.getfield 39, 3) := by decide +kernel
theorem dX9_findTokens_19 : decode cX9_findTokens 19 = .ok (.aload_n 0, 1) := by decide +kernel
theorem dX9_findTokens_20 : decode cX9_findTokens 20 = .ok (.getfield 127, 3) := by decide +kernel
theorem dX9_findTokens_23 : decode cX9_findTokens 23 = .ok (.iload_n 1, 1) := by decide +kernel
theorem dX9_findTokens_24 : decode cX9_findTokens 24 = .ok (.iconst 1, 1) := by decide +kernel
theorem dX9_findTokens_25 : decode cX9_findTokens 25 = .ok (.iadd, 1) := by decide +kernel
theorem dX9_findTokens_26 : decode cX9_findTokens 26 = .ok (.iastore, 1) := by decide +kernel
theorem dX9_findTokens_27 : decode cX9_findTokens 27 = .ok (.aload_n 0, 1) := by decide +kernel
theorem dX9_findTokens_28 : decode cX9_findTokens 28 = .ok (.dup, 1) := by decide +kernel
theorem dX9_findTokens_29 : decode cX9_findTokens 29 = .ok (.getfield 127, 3) := by decide +kernel
theorem dX9_findTokens_32 : decode cX9_findTokens 32 = .ok (.iconst 1, 1) := by decide +kernel
theorem dX9_findTokens_33 : decode cX9_findTokens 33 = .ok (.iadd, 1) := by decide +kernel
theorem dX9_findTokens_34 : decode cX9_findTokens 34 = .ok (.putfield 127, 3) := by decide +kernel
theorem dX9_findTokens_37 : decode cX9_findTokens 37 = .ok (.aload_n 0, 1) := by decide +kernel
theorem dX9_findTokens_38 : decode cX9_findTokens 38 = .ok (.iload_n 1, 1) := by decide +kernel
theorem dX9_findTokens_39 : decode cX9_findTokens 39 = .ok (.invokevirtual 124, 3) := by decide +kernel
theorem dX9_findTokens_42 : decode cX9_findTokens 42 = .ok (.ifCond .eq 26, 3) := by decide +kernel
theorem dX9_findTokens_45 : decode cX9_findTokens 45 = .ok (.aload_n 0, 1) := by decide +kernel
theorem dX9_findTokens_46 : decode cX9_findTokens 46 = .ok (.getfield 39, 3) := by decide +kernel
theorem dX9_findTokens_49 : decode cX9_findTokens 49 = .ok (.aload_n 0, 1) := by decide +kernel
theorem dX9_findTokens_50 : decode cX9_findTokens 50 = .ok (.getfield 127, 3) := by decide +kernel
theorem dX9_findTokens_53 : decode cX9_findTokens 53 = .ok (.iload_n 1, 1) := by decide +kernel
theorem dX9_findTokens_54 : decode cX9_findTokens 54 = .ok (.ineg, 1) := by decide +kernel
theorem dX9_findTokens_55 : decode cX9_findTokens 55 = .ok (.iconst 1, 1) := by decide +kernel
theorem dX9_findTokens_56 : decode cX9_findTokens 56 = .ok (.isub, 1) := by decide +kernel
theorem dX9_findTokens_57 : decode cX9_findTokens 57 = .ok (.iastore, 1) := by decide +kernel
theorem dX9_findTokens_58 : decode cX9_findTokens 58 = .ok (.aload_n 0, 1) := by decide +kernel
theorem dX9_findTokens_59 : decode cX9_findTokens 59 = .ok (.dup, 1) := by decide +kernel
theorem dX9_findTokens_60 : decode cX9_findTokens 60 = .ok (.getfield 127, 3) := by decide +kernel
theorem dX9_findTokens_63 : decode cX9_findTokens 63 = .ok (.iconst 1, 1) := by decide +kernel
theorem dX9_findTokens_64 : decode cX9_findTokens 64 = .ok (.iadd, 1) := by decide +kernel
theorem dX9_findTokens_65 : decode cX9_findTokens 65 = .ok (.putfield 127, 3) := by decide +kernel
theorem dX9_findTokens_68 : decode cX9_findTokens 68 = .ok (.iinc 1 1, 3) := by decide +kernel
theorem dX9_findTokens_71 : decode cX9_findTokens 71 = .ok (.goto (-64), 3) := by decide +kernel
theorem dX9_findTokens_74 : decode cX9_findTokens 74 = .ok (.return_, 1) := by decide +kernel
theorem dX9_many_0 : decode cX9_many 0 = .ok (.aload_n 0, 1) := by decide +kernel
theorem dX9_many_1 : decode cX9_many 1 = .ok (.invokevirtual 130, 3) := by decide +kernel
theorem dX9_many_4 : decode cX9_many 4 = .ok (.iload_n 1, 1) := by decide +kernel
theorem dX9_many_5 : decode cX9_many 5 = .ok (.tableswitch 59 0 3 #[31, 36, 41, 54], 31) := by decide +kernel
theorem dX9_many_36 : decode cX9_many 36 = .ok (.aload_n 0, 1) := by decide +kernel
theorem dX9_many_37 : decode cX9_many 37 = .ok (.getfield 19, 3) := by decide +kernel
theorem dX9_many_40 : decode cX9_many 40 = .ok (.ireturn, 1) := by decide +kernel
theorem dX9_many_41 : decode cX9_many 41 = .ok (.aload_n 0, 1) := by decide +kernel
theorem dX9_many_42 : decode cX9_many 42 = .ok (.getfield 116, 3) := by decide +kernel
theorem dX9_many_45 : decode cX9_many 45 = .ok (.ireturn, 1) := by decide +kernel
theorem dX9_many_46 : decode cX9_many 46 = .ok (.aload_n 0, 1) := by decide +kernel
theorem dX9_many_47 : decode cX9_many 47 = .ok (.invokevirtual 133, 3) := by decide +kernel
theorem dX9_many_50 : decode cX9_many 50 = .ok (.ifCond .eq 7, 3) := by decide +kernel
theorem dX9_many_53 : decode cX9_many 53 = .ok (.iconst 1, 1) := by decide +kernel
theorem dX9_many_54 : decode cX9_many 54 = .ok (.goto 4, 3) := by decide +kernel
theorem dX9_many_57 : decode cX9_many 57 = .ok (.iconst 0, 1) := by decide +kernel
theorem dX9_many_58 : decode cX9_many 58 = .ok (.ireturn, 1) := by decide +kernel
theorem dX9_many_59 : decode cX9_many 59 = .ok (.aload_n 0, 1) := by decide +kernel
theorem dX9_many_60 : decode cX9_many 60 = .ok (.getfield 127, 3) := by decide +kernel
theorem dX9_many_63 : decode cX9_many 63 = .ok (.ireturn, 1) := by decide +kernel
theorem dX9_many_64 : decode cX9_many 64 = .ok (.iconst (-1), 1) := by decide +kernel
theorem dX9_many_65 : decode cX9_many 65 = .ok (.ireturn, 1) := by decide +kernel
theorem dX9_add_0 : decode cX9_add 0 = .ok (.aload_n 0, 1) := by decide +kernel
theorem dX9_add_1 : decode cX9_add 1 = .ok (.getfield 32, 3) := by decide +kernel
theorem dX9_add_4 : decode cX9_add 4 = .ok (.iload_n 1, 1) := by decide +kernel
theorem dX9_add_5 : decode cX9_add 5 = .ok (.iaload, 1) := by decide +kernel
theorem dX9_add_6 : decode cX9_add 6 = .ok (.istore_n 3, 1) := by decide +kernel
theorem dX9_add_7 : decode cX9_add 7 = .ok (.iload_n 3, 1) := by decide +kernel
theorem dX9_add_8 : decode cX9_add 8 = .ok (.ifCond .le 33, 3) := by decide +kernel
theorem dX9_add_11 : decode cX9_add 11 = .ok (.aload_n 0, 1) := by decide +kernel
theorem dX9_add_12 : decode cX9_add 12 = .ok (.getfield 29, 3) := by decide +kernel
theorem dX9_add_15 : decode cX9_add 15 = .ok (.bipush 34, 2) := by decide +kernel
theorem dX9_add_17 : decode cX9_add 17 = .ok (.iload_n 1, 1) := by decide +kernel
theorem dX9_add_18 : decode cX9_add 18 = .ok (.imul, 1) := by decide +kernel
theorem dX9_add_19 : decode cX9_add 19 = .ok (.iload_n 3, 1) := by decide +kernel
theorem dX9_add_20 : decode cX9_add 20 = .ok (.iadd, 1) := by decide +kernel
theorem dX9_add_21 : decode cX9_add 21 = .ok (.iconst 1, 1) := by decide +kernel
theorem dX9_add_22 : decode cX9_add 22 = .ok (.isub, 1) := by decide +kernel
theorem dX9_add_23 : decode cX9_add 23 = .ok (.iaload, 1) := by decide +kernel
theorem dX9_add_24 : decode cX9_add 24 = .ok (.iload_n 2, 1) := by decide +kernel
theorem dX9_add_25 : decode cX9_add 25 = .ok (.ineg, 1) := by decide +kernel
theorem dX9_add_26 : decode cX9_add 26 = .ok (.if_icmp .ne 15, 3) := by decide +kernel
theorem dX9_add_29 : decode cX9_add 29 = .ok (.aload_n 0, 1) := by decide +kernel
theorem dX9_add_30 : decode cX9_add 30 = .ok (.getfield 32, 3) := by decide +kernel
theorem dX9_add_33 : decode cX9_add 33 = .ok (.iload_n 1, 1) := by decide +kernel
theorem dX9_add_34 : decode cX9_add 34 = .ok (.iload_n 3, 1) := by decide +kernel
theorem dX9_add_35 : decode cX9_add 35 = .ok (.iconst 1, 1) := by decide +kernel
theorem dX9_add_36 : decode cX9_add 36 = .ok (.isub, 1) := by decide +kernel
theorem dX9_add_37 : decode cX9_add 37 = .ok (.iastore, 1) := by decide +kernel
theorem dX9_add_38 : decode cX9_add 38 = .ok (.goto 24, 3) := by decide +kernel
theorem dX9_add_41 : decode cX9_add 41 = .ok (.aload_n 0, 1) := by decide +kernel
theorem dX9_add_42 : decode cX9_add 42 = .ok (.getfield 29, 3) := by decide +kernel
theorem dX9_add_45 : decode cX9_add 45 = .ok (.bipush 34, 2) := by decide +kernel
theorem dX9_add_47 : decode cX9_add 47 = .ok (.iload_n 1, 1) := by decide +kernel
theorem dX9_add_48 : decode cX9_add 48 = .ok (.imul, 1) := by decide +kernel
theorem dX9_add_49 : decode cX9_add 49 = .ok (.iload_n 3, 1) := by decide +kernel
theorem dX9_add_50 : decode cX9_add 50 = .ok (.iadd, 1) := by decide +kernel
theorem dX9_add_51 : decode cX9_add 51 = .ok (.iload_n 2, 1) := by decide +kernel
theorem dX9_add_52 : decode cX9_add 52 = .ok (.iastore, 1) := by decide +kernel
theorem dX9_add_53 : decode cX9_add 53 = .ok (.aload_n 0, 1) := by decide +kernel
theorem dX9_add_54 : decode cX9_add 54 = .ok (.getfield 32, 3) := by decide +kernel
theorem dX9_add_57 : decode cX9_add 57 = .ok (.iload_n 1, 1) := by decide +kernel
theorem dX9_add_58 : decode cX9_add 58 = .ok (.iload_n 3, 1) := by decide +kernel
theorem dX9_add_59 : decode cX9_add 59 = .ok (.iconst 1, 1) := by decide +kernel
theorem dX9_add_60 : decode cX9_add 60 = .ok (.iadd, 1) := by decide +kernel
theorem dX9_add_61 : decode cX9_add 61 = .ok (.iastore, 1) := by decide +kernel
theorem dX9_add_62 : decode cX9_add 62 = .ok (.return_, 1) := by decide +kernel
theorem dX9_copy_0 : decode cX9_copy 0 = .ok (.aload_n 0, 1) := by decide +kernel
theorem dX9_copy_1 : decode cX9_copy 1 = .ok (.getfield 32, 3) := by decide +kernel
theorem dX9_copy_4 : decode cX9_copy 4 = .ok (.iload_n 1, 1) := by decide +kernel
theorem dX9_copy_5 : decode cX9_copy 5 = .ok (.aload_n 0, 1) := by decide +kernel
theorem dX9_copy_6 : decode cX9_copy 6 = .ok (.getfield 32, 3) := by decide +kernel
theorem dX9_copy_9 : decode cX9_copy 9 = .ok (.iload_n 2, 1) := by decide +kernel
theorem dX9_copy_10 : decode cX9_copy 10 = .ok (.iaload, 1) := by decide +kernel
theorem dX9_copy_11 : decode cX9_copy 11 = .ok (.iastore, 1) := by decide +kernel
theorem dX9_copy_12 : decode cX9_copy 12 = .ok (.iconst 0, 1) := by decide +kernel
theorem dX9_copy_13 : decode cX9_copy 13 = .ok (.istore_n 3, 1) := by decide +kernel
theorem dX9_copy_14 : decode cX9_copy 14 = .ok (.iload_n 3, 1) := by decide +kernel
theorem dX9_copy_15 : decode cX9_copy 15 = .ok (.aload_n 0, 1) := by decide +kernel
theorem dX9_copy_16 : decode cX9_copy 16 = .ok (.getfield 32, 3) := by decide +kernel
theorem dX9_copy_19 : decode cX9_copy 19 = .ok (.iload_n 2, 1) := by decide +kernel
theorem dX9_copy_20 : decode cX9_copy 20 = .ok (.iaload, 1) := by decide +kernel
theorem dX9_copy_21 : decode cX9_copy 21 = .ok (.if_icmp .ge 31, 3) := by decide +kernel
theorem dX9_copy_24 : decode cX9_copy 24 = .ok (.aload_n 0, 1) := by decide +kernel
theorem dX9_copy_25 : decode cX9_copy 25 = .ok (.getfield 29, 3) := by decide +kernel
theorem dX9_copy_28 : decode cX9_copy 28 = .ok (.bipush 34, 2) := by decide +kernel
theorem dX9_copy_30 : decode cX9_copy 30 = .ok (.iload_n 1, 1) := by decide +kernel
theorem dX9_copy_31 : decode cX9_copy 31 = .ok (.imul, 1) := by decide +kernel
theorem dX9_copy_32 : decode cX9_copy 32 = .ok (.iload_n 3, 1) := by decide +kernel
theorem dX9_copy_33 : decode cX9_copy 33 = .ok (.iadd, 1) := by decide +kernel
theorem dX9_copy_34 : decode cX9_copy 34 = .ok (.aload_n 0, 1) := by decide +kernel
theorem dX9_copy_35 : decode cX9_copy 35 = .ok (.getfield 29, 3) := by decide +kernel
theorem dX9_copy_38 : decode cX9_copy 38 = .ok (.bipush 34, 2) := by decide +kernel
theorem dX9_copy_40 : decode cX9_copy 40 = .ok (.iload_n 2, 1) := by decide +kernel
theorem dX9_copy_41 : decode cX9_copy 41 = .ok (.imul, 1) := by decide +kernel
theorem dX9_copy_42 : decode cX9_copy 42 = .ok (.iload_n 3, 1) := by decide +kernel
theorem dX9_copy_43 : decode cX9_copy 43 = .ok (.iadd, 1) := by decide +kernel
theorem dX9_copy_44 : decode cX9_copy 44 = .ok (.iaload, 1) := by decide +kernel
theorem dX9_copy_45 : decode cX9_copy 45 = .ok (.iastore, 1) := by decide +kernel
theorem dX9_copy_46 : decode cX9_copy 46 = .ok (.iinc 3 1, 3) := by decide +kernel
theorem dX9_copy_49 : decode cX9_copy 49 = .ok (.goto (-35), 3) := by decide +kernel
theorem dX9_copy_52 : decode cX9_copy 52 = .ok (.return_, 1) := by decide +kernel
theorem dX9_put_0 : decode cX9_put 0 = .ok (.aload_n 0, 1) := by decide +kernel
theorem dX9_put_1 : decode cX9_put 1 = .ok (.getfield 42, 3) := by decide +kernel
theorem dX9_put_4 : decode cX9_put 4 = .ok (.iconst 0, 1) := by decide +kernel
theorem dX9_put_5 : decode cX9_put 5 = .ok (.iload_n 2, 1) := by decide +kernel
theorem dX9_put_6 : decode cX9_put 6 = .ok (.iastore, 1) := by decide +kernel
theorem dX9_put_7 : decode cX9_put 7 = .ok (.aload_n 0, 1) := by decide +kernel
theorem dX9_put_8 : decode cX9_put 8 = .ok (.getfield 42, 3) := by decide +kernel
theorem dX9_put_11 : decode cX9_put 11 = .ok (.iconst 1, 1) := by decide +kernel
theorem dX9_put_12 : decode cX9_put 12 = .ok (.iload_n 3, 1) := by decide +kernel
theorem dX9_put_13 : decode cX9_put 13 = .ok (.iastore, 1) := by decide +kernel
theorem dX9_put_14 : decode cX9_put 14 = .ok (.aload_n 0, 1) := by decide +kernel
theorem dX9_put_15 : decode cX9_put 15 = .ok (.getfield 42, 3) := by decide +kernel
theorem dX9_put_18 : decode cX9_put 18 = .ok (.iconst 2, 1) := by decide +kernel
theorem dX9_put_19 : decode cX9_put 19 = .ok (.iload 4, 2) := by decide +kernel
theorem dX9_put_21 : decode cX9_put 21 = .ok (.iastore, 1) := by decide +kernel
theorem dX9_put_22 : decode cX9_put 22 = .ok (.aload_n 0, 1) := by decide +kernel
theorem dX9_put_23 : decode cX9_put 23 = .ok (.getfield 42, 3) := by decide +kernel
theorem dX9_put_26 : decode cX9_put 26 = .ok (.iconst 3, 1) := by decide +kernel
theorem dX9_put_27 : decode cX9_put 27 = .ok (.iload 5, 2) := by decide +kernel
theorem dX9_put_29 : decode cX9_put 29 = .ok (.iastore, 1) := by decide +kernel
theorem dX9_put_30 : decode cX9_put 30 = .ok (.iconst 0, 1) := by decide +kernel
theorem dX9_put_31 : decode cX9_put 31 = .ok (.istore 6, 2) := by decide +kernel
theorem dX9_put_33 : decode cX9_put 33 = .ok (.iload_n 1, 1) := by decide +kernel
theorem dX9_put_34 : decode cX9_put 34 = .ok (.invokestatic 137, 3) := by decide +kernel
theorem dX9_put_37 : decode cX9_put 37 = .ok (.istore 7, 2) := by decide +kernel
theorem dX9_put_39 : decode cX9_put 39 = .ok (.iload 6, 2) := by decide +kernel
theorem dX9_put_41 : decode cX9_put 41 = .ok (.iconst 4, 1) := by decide +kernel
theorem dX9_put_42 : decode cX9_put 42 = .ok (.if_icmp .ge 56, 3) := by decide +kernel
theorem dX9_put_45 : decode cX9_put 45 = .ok (.aload_n 0, 1) := by decide +kernel
theorem dX9_put_46 : decode cX9_put 46 = .ok (.getfield 42, 3) := by decide +kernel
theorem dX9_put_49 : decode cX9_put 49 = .ok (.iload 6, 2) := by decide +kernel
theorem dX9_put_51 : decode cX9_put 51 = .ok (.iaload, 1) := by decide +kernel
theorem dX9_put_52 : decode cX9_put 52 = .ok (.ifCond .eq 46, 3) := by decide +kernel
theorem dX9_put_55 : decode cX9_put 55 = .ok (.iload 7, 2) := by decide +kernel
theorem dX9_put_57 : decode cX9_put 57 = .ok (.ifCond .eq 32, 3) := by decide +kernel
theorem dX9_put_60 : decode cX9_put 60 = .ok (.aload_n 0, 1) := by decide +kernel
theorem dX9_put_61 : decode cX9_put 61 = .ok (.getfield 42, 3) := by decide +kernel
theorem dX9_put_64 : decode cX9_put 64 = .ok (.iload 6, 2) := by decide +kernel
theorem dX9_put_66 : decode cX9_put 66 = .ok (.iaload, 1) := by decide +kernel
theorem dX9_put_67 : decode cX9_put 67 = .ok (.i2l, 1) := by decide +kernel
theorem dX9_put_68 : decode cX9_put 68 = .ok (.aload_n 0, 1) := by decide +kernel
theorem dX9_put_69 : decode cX9_put 69 = .ok (.getfield 116, 3) := by decide +kernel
theorem dX9_put_72 : decode cX9_put 72 = .ok (.ineg, 1) := by decide +kernel
theorem dX9_put_73 : decode cX9_put 73 = .ok (.i2l, 1) := by decide +kernel
theorem dX9_put_74 : decode cX9_put 74 = .ok (.aload_n 0, 1) := by decide +kernel
theorem dX9_put_75 : decode cX9_put 75 = .ok (.getfield 116, 3) := by decide +kernel
theorem dX9_put_78 : decode cX9_put 78 = .ok (.i2l, 1) := by decide +kernel
theorem dX9_put_79 : decode cX9_put 79 = .ok (.invokestatic 99, 3) := by decide +kernel
theorem dX9_put_82 : decode cX9_put 82 = .ok (.ifCond .eq 7, 3) := by decide +kernel
theorem dX9_put_85 : decode cX9_put 85 = .ok (.iconst 1, 1) := by decide +kernel
theorem dX9_put_86 : decode cX9_put 86 = .ok (.goto 4, 3) := by decide +kernel
theorem dX9_put_89 : decode cX9_put 89 = .ok (.iconst 0, 1) := by decide +kernel
theorem dX9_put_90 : decode cX9_put 90 = .ok (.istore 7, 2) := by decide +kernel
theorem dX9_put_92 : decode cX9_put 92 = .ok (.iinc 6 1, 3) := by decide +kernel
theorem dX9_put_95 : decode cX9_put 95 = .ok (.goto (-56), 3) := by decide +kernel
theorem dX9_put_98 : decode cX9_put 98 = .ok (.iload 7, 2) := by decide +kernel
theorem dX9_put_100 : decode cX9_put 100 = .ok (.ifCond .ne 5, 3) := by decide +kernel
theorem dX9_put_103 : decode cX9_put 103 = .ok (.iconst (-1), 1) := by decide +kernel
theorem dX9_put_104 : decode cX9_put 104 = .ok (.ireturn, 1) := by decide +kernel
theorem dX9_put_105 : decode cX9_put 105 = .ok (.iconst 0, 1) := by decide +kernel
theorem dX9_put_106 : decode cX9_put 106 = .ok (.istore 8, 2) := by decide +kernel
theorem dX9_put_108 : decode cX9_put 108 = .ok (.iload 8, 2) := by decide +kernel
theorem dX9_put_110 : decode cX9_put 110 = .ok (.iload 6, 2) := by decide +kernel
theorem dX9_put_112 : decode cX9_put 112 = .ok (.if_icmp .ge 39, 3) := by decide +kernel
theorem dX9_put_115 : decode cX9_put 115 = .ok (.aload_n 0, 1) := by decide +kernel
theorem dX9_put_116 : decode cX9_put 116 = .ok (.getfield 42, 3) := by decide +kernel
theorem dX9_put_119 : decode cX9_put 119 = .ok (.iload 8, 2) := by decide +kernel
theorem dX9_put_121 : decode cX9_put 121 = .ok (.iaload, 1) := by decide +kernel
theorem dX9_put_122 : decode cX9_put 122 = .ok (.ifCond .ge 23, 3) := by decide +kernel
theorem dX9_put_125 : decode cX9_put 125 = .ok (.aload_n 0, 1) := by decide +kernel
theorem dX9_put_126 : decode cX9_put 126 = .ok (.aload_n 0, 1) := by decide +kernel
theorem dX9_put_127 : decode cX9_put 127 = .ok (.getfield 42, 3) := by decide +kernel
theorem dX9_put_130 : decode cX9_put 130 = .ok (.iload 8, 2) := by decide +kernel
theorem dX9_put_132 : decode cX9_put 132 = .ok (.iaload, 1) := by decide +kernel
theorem dX9_put_133 : decode cX9_put 133 = .ok (.ineg, 1) := by decide +kernel
theorem dX9_put_134 : decode cX9_put 134 = .ok (.iconst 1, 1) := by decide +kernel
theorem dX9_put_135 : decode cX9_put 135 = .ok (.isub, 1) := by decide +kernel
theorem dX9_put_136 : decode cX9_put 136 = .ok (.invokevirtual 124, 3) := by decide +kernel
theorem dX9_put_139 : decode cX9_put 139 = .ok (.ifCond .ne 6, 3) := by decide +kernel
theorem dX9_put_142 : decode cX9_put 142 = .ok (.bipush (-6), 2) := by decide +kernel
theorem dX9_put_144 : decode cX9_put 144 = .ok (.ireturn, 1) := by decide +kernel
theorem dX9_put_145 : decode cX9_put 145 = .ok (.iinc 8 1, 3) := by decide +kernel
theorem dX9_put_148 : decode cX9_put 148 = .ok (.goto (-40), 3) := by decide +kernel
theorem dX9_put_151 : decode cX9_put 151 = .ok (.aload_n 0, 1) := by decide +kernel
theorem dX9_put_152 : decode cX9_put 152 = .ok (.bipush 8, 2) := by decide +kernel
theorem dX9_put_154 : decode cX9_put 154 = .ok (.iload_n 1, 1) := by decide +kernel
theorem dX9_put_155 : decode cX9_put 155 = .ok (.invokevirtual 140, 3) := by decide +kernel
theorem dX9_put_158 : decode cX9_put 158 = .ok (.iconst 0, 1) := by decide +kernel
theorem dX9_put_159 : decode cX9_put 159 = .ok (.istore 8, 2) := by decide +kernel
theorem dX9_put_161 : decode cX9_put 161 = .ok (.iload 8, 2) := by decide +kernel
theorem dX9_put_163 : decode cX9_put 163 = .ok (.iload 6, 2) := by decide +kernel
theorem dX9_put_165 : decode cX9_put 165 = .ok (.if_icmp .ge 22, 3) := by decide +kernel
theorem dX9_put_168 : decode cX9_put 168 = .ok (.aload_n 0, 1) := by decide +kernel
theorem dX9_put_169 : decode cX9_put 169 = .ok (.bipush 8, 2) := by decide +kernel
theorem dX9_put_171 : decode cX9_put 171 = .ok (.aload_n 0, 1) := by decide +kernel
theorem dX9_put_172 : decode cX9_put 172 = .ok (.getfield 42, 3) := by decide +kernel
theorem dX9_put_175 : decode cX9_put 175 = .ok (.iload 8, 2) := by decide +kernel
theorem dX9_put_177 : decode cX9_put 177 = .ok (.iaload, 1) := by decide +kernel
theorem dX9_put_178 : decode cX9_put 178 = .ok (.invokevirtual 144, 3) := by decide +kernel
theorem dX9_put_181 : decode cX9_put 181 = .ok (.iinc 8 1, 3) := by decide +kernel
theorem dX9_put_184 : decode cX9_put 184 = .ok (.goto (-23), 3) := by decide +kernel
theorem dX9_put_187 : decode cX9_put 187 = .ok (.aload_n 0, 1) := by decide +kernel
theorem dX9_put_188 : decode cX9_put 188 = .ok (.getfield 32, 3) := by decide +kernel
theorem dX9_put_191 : decode cX9_put 191 = .ok (.bipush 8, 2) := by decide +kernel
theorem dX9_put_193 : decode cX9_put 193 = .ok (.iaload, 1) := by decide +kernel
theorem dX9_put_194 : decode cX9_put 194 = .ok (.bipush 16, 2) := by decide +kernel
theorem dX9_put_196 : decode cX9_put 196 = .ok (.if_icmp .le 6, 3) := by decide +kernel
theorem dX9_put_199 : decode cX9_put 199 = .ok (.bipush (-2), 2) := by decide +kernel
theorem dX9_put_201 : decode cX9_put 201 = .ok (.ireturn, 1) := by decide +kernel
theorem dX9_put_202 : decode cX9_put 202 = .ok (.aload_n 0, 1) := by decide +kernel
theorem dX9_put_203 : decode cX9_put 203 = .ok (.iload_n 1, 1) := by decide +kernel
theorem dX9_put_204 : decode cX9_put 204 = .ok (.bipush 8, 2) := by decide +kernel
theorem dX9_put_206 : decode cX9_put 206 = .ok (.invokevirtual 140, 3) := by decide +kernel
theorem dX9_put_209 : decode cX9_put 209 = .ok (.aload_n 0, 1) := by decide +kernel
theorem dX9_put_210 : decode cX9_put 210 = .ok (.getfield 32, 3) := by decide +kernel
theorem dX9_put_213 : decode cX9_put 213 = .ok (.iload_n 1, 1) := by decide +kernel
theorem dX9_put_214 : decode cX9_put 214 = .ok (.iaload, 1) := by decide +kernel
theorem dX9_put_215 : decode cX9_put 215 = .ok (.ireturn, 1) := by decide +kernel
theorem dX9_wipe_0 : decode cX9_wipe 0 = .ok (.iload_n 1, 1) := by decide +kernel
theorem dX9_wipe_1 : decode cX9_wipe 1 = .ok (.invokestatic 137, 3) := by decide +kernel
theorem dX9_wipe_4 : decode cX9_wipe 4 = .ok (.ifCond .ne 5, 3) := by decide +kernel
theorem dX9_wipe_7 : decode cX9_wipe 7 = .ok (.iconst (-1), 1) := by decide +kernel
theorem dX9_wipe_8 : decode cX9_wipe 8 = .ok (.ireturn, 1) := by decide +kernel
theorem dX9_wipe_9 : decode cX9_wipe 9 = .ok (.aload_n 0, 1) := by decide +kernel
theorem dX9_wipe_10 : decode cX9_wipe 10 = .ok (.getfield 32, 3) := by decide +kernel
theorem dX9_wipe_13 : decode cX9_wipe 13 = .ok (.iload_n 1, 1) := by decide +kernel
theorem dX9_wipe_14 : decode cX9_wipe 14 = .ok (.iaload, 1) := by decide +kernel
theorem dX9_wipe_15 : decode cX9_wipe 15 = .ok (.istore_n 2, 1) := by decide +kernel
theorem dX9_wipe_16 : decode cX9_wipe 16 = .ok (.aload_n 0, 1) := by decide +kernel
theorem dX9_wipe_17 : decode cX9_wipe 17 = .ok (.getfield 32, 3) := by decide +kernel
theorem dX9_wipe_20 : decode cX9_wipe 20 = .ok (.iload_n 1, 1) := by decide +kernel
theorem dX9_wipe_21 : decode cX9_wipe 21 = .ok (.iconst 0, 1) := by decide +kernel
theorem dX9_wipe_22 : decode cX9_wipe 22 = .ok (.iastore, 1) := by decide +kernel
theorem dX9_wipe_23 : decode cX9_wipe 23 = .ok (.iload_n 2, 1) := by decide +kernel
theorem dX9_wipe_24 : decode cX9_wipe 24 = .ok (.ireturn, 1) := by decide +kernel
theorem dX9_size_0 : decode cX9_size 0 = .ok (.iload_n 1, 1) := by decide +kernel
theorem dX9_size_1 : decode cX9_size 1 = .ok (.invokestatic 137, 3) := by decide +kernel
theorem dX9_size_4 : decode cX9_size 4 = .ok (.ifCond .eq 12, 3) := by decide +kernel
theorem dX9_size_7 : decode cX9_size 7 = .ok (.aload_n 0, 1) := by decide +kernel
theorem dX9_size_8 : decode cX9_size 8 = .ok (.getfield 32, 3) := by decide +kernel
theorem dX9_size_11 : decode cX9_size 11 = .ok (.iload_n 1, 1) := by decide +kernel
theorem dX9_size_12 : decode cX9_size 12 = .ok (.iaload, 1) := by decide +kernel
theorem dX9_size_13 : decode cX9_size 13 = .ok (.goto 4, 3) := by decide +kernel
theorem dX9_size_16 : decode cX9_size 16 = .ok (.iconst (-1), 1) := by decide +kernel
theorem dX9_size_17 : decode cX9_size 17 = .ok (.ireturn, 1) := by decide +kernel
theorem dX9_token_0 : decode cX9_token 0 = .ok (.iload_n 1, 1) := by decide +kernel
theorem dX9_token_1 : decode cX9_token 1 = .ok (.invokestatic 137, 3) := by decide +kernel
theorem dX9_token_4 : decode cX9_token 4 = .ok (.ifCond .eq 35, 3) := by decide +kernel
theorem dX9_token_7 : decode cX9_token 7 = .ok (.iload_n 2, 1) := by decide +kernel
theorem dX9_token_8 : decode cX9_token 8 = .ok (.i2l, 1) := by decide +kernel
theorem dX9_token_9 : decode cX9_token 9 = .ok (.lconst 0, 1) := by decide +kernel
theorem dX9_token_10 : decode cX9_token 10 = .ok (.aload_n 0, 1) := by decide +kernel
theorem dX9_token_11 : decode cX9_token 11 = .ok (.getfield 32, 3) := by decide +kernel
theorem dX9_token_14 : decode cX9_token 14 = .ok (.iload_n 1, 1) := by decide +kernel
theorem dX9_token_15 : decode cX9_token 15 = .ok (.iaload, 1) := by decide +kernel
theorem dX9_token_16 : decode cX9_token 16 = .ok (.iconst 1, 1) := by decide +kernel
theorem dX9_token_17 : decode cX9_token 17 = .ok (.isub, 1) := by decide +kernel
theorem dX9_token_18 : decode cX9_token 18 = .ok (.i2l, 1) := by decide +kernel
theorem dX9_token_19 : decode cX9_token 19 = .ok (.invokestatic 99, 3) := by decide +kernel
theorem dX9_token_22 : decode cX9_token 22 = .ok (.ifCond .eq 17, 3) := by decide +kernel
theorem dX9_token_25 : decode cX9_token 25 = .ok (.aload_n 0, 1) := by decide +kernel
theorem dX9_token_26 : decode cX9_token 26 = .ok (.getfield 29, 3) := by decide +kernel
theorem dX9_token_29 : decode cX9_token 29 = .ok (.bipush 34, 2) := by decide +kernel
theorem dX9_token_31 : decode cX9_token 31 = .ok (.iload_n 1, 1) := by decide +kernel
theorem dX9_token_32 : decode cX9_token 32 = .ok (.imul, 1) := by decide +kernel
theorem dX9_token_33 : decode cX9_token 33 = .ok (.iload_n 2, 1) := by decide +kernel
theorem dX9_token_34 : decode cX9_token 34 = .ok (.iadd, 1) := by decide +kernel
theorem dX9_token_35 : decode cX9_token 35 = .ok (.iaload, 1) := by decide +kernel
theorem dX9_token_36 : decode cX9_token 36 = .ok (.goto 4, 3) := by decide +kernel
theorem dX9_token_39 : decode cX9_token 39 = .ok (.iconst 0, 1) := by decide +kernel
theorem dX9_token_40 : decode cX9_token 40 = .ok (.ireturn, 1) := by decide +kernel
theorem dX9_times_0 : decode cX9_times 0 = .ok (.iload_n 1, 1) := by decide +kernel
theorem dX9_times_1 : decode cX9_times 1 = .ok (.invokestatic 137, 3) := by decide +kernel
theorem dX9_times_4 : decode cX9_times 4 = .ok (.ifCond .eq 17, 3) := by decide +kernel
theorem dX9_times_7 : decode cX9_times 7 = .ok (.iload_n 2, 1) := by decide +kernel
theorem dX9_times_8 : decode cX9_times 8 = .ok (.invokestatic 137, 3) := by decide +kernel
theorem dX9_times_11 : decode cX9_times 11 = .ok (.ifCond .eq 10, 3) := by decide +kernel
theorem dX9_times_14 : decode cX9_times 14 = .ok (.iload_n 3, 1) := by decide +kernel
theorem dX9_times_15 : decode cX9_times 15 = .ok (.invokestatic 137, 3) := by decide +kernel
theorem dX9_times_18 : decode cX9_times 18 = .ok (.ifCond .ne 5, 3) := by decide +kernel
theorem dX9_times_21 : decode cX9_times 21 = .ok (.iconst (-1), 1) := by decide +kernel
theorem dX9_times_22 : decode cX9_times 22 = .ok (.ireturn, 1) := by decide +kernel
theorem dX9_times_23 : decode cX9_times 23 = .ok (.aload_n 0, 1) := by decide +kernel
theorem dX9_times_24 : decode cX9_times 24 = .ok (.bipush 8, 2) := by decide +kernel
theorem dX9_times_26 : decode cX9_times 26 = .ok (.iload_n 1, 1) := by decide +kernel
theorem dX9_times_27 : decode cX9_times 27 = .ok (.invokevirtual 140, 3) := by decide +kernel
theorem dX9_times_30 : decode cX9_times 30 = .ok (.iconst 0, 1) := by decide +kernel
theorem dX9_times_31 : decode cX9_times 31 = .ok (.istore 4, 2) := by decide +kernel
theorem dX9_times_33 : decode cX9_times 33 = .ok (.iload 4, 2) := by decide +kernel
theorem dX9_times_35 : decode cX9_times 35 = .ok (.aload_n 0, 1) := by decide +kernel
theorem dX9_times_36 : decode cX9_times 36 = .ok (.getfield 32, 3) := by decide +kernel
theorem dX9_times_39 : decode cX9_times 39 = .ok (.iload_n 2, 1) := by decide +kernel
theorem dX9_times_40 : decode cX9_times 40 = .ok (.iaload, 1) := by decide +kernel
theorem dX9_times_41 : decode cX9_times 41 = .ok (.if_icmp .ge 27, 3) := by decide +kernel
theorem dX9_times_44 : decode cX9_times 44 = .ok (.aload_n 0, 1) := by decide +kernel
theorem dX9_times_45 : decode cX9_times 45 = .ok (.bipush 8, 2) := by decide +kernel
theorem dX9_times_47 : decode cX9_times 47 = .ok (.aload_n 0, 1) := by decide +kernel
theorem dX9_times_48 : decode cX9_times 48 = .ok (.getfield 29, 3) := by decide +kernel
theorem dX9_times_51 : decode cX9_times 51 = .ok (.bipush 34, 2) := by decide +kernel
theorem dX9_times_53 : decode cX9_times 53 = .ok (.iload_n 2, 1) := by decide +kernel
theorem dX9_times_54 : decode cX9_times 54 = .ok (.imul, 1) := by decide +kernel
theorem dX9_times_55 : decode cX9_times 55 = .ok (.iload 4, 2) := by decide +kernel
theorem dX9_times_57 : decode cX9_times 57 = .ok (.iadd, 1) := by decide +kernel
theorem dX9_times_58 : decode cX9_times 58 = .ok (.iaload, 1) := by decide +kernel
theorem dX9_times_59 : decode cX9_times 59 = .ok (.invokevirtual 144, 3) := by decide +kernel
theorem dX9_times_62 : decode cX9_times 62 = .ok (.iinc 4 1, 3) := by decide +kernel
theorem dX9_times_65 : decode cX9_times 65 = .ok (.goto (-32), 3) := by decide +kernel
theorem dX9_times_68 : decode cX9_times 68 = .ok (.aload_n 0, 1) := by decide +kernel
theorem dX9_times_69 : decode cX9_times 69 = .ok (.getfield 32, 3) := by decide +kernel
theorem dX9_times_72 : decode cX9_times 72 = .ok (.bipush 8, 2) := by decide +kernel
theorem dX9_times_74 : decode cX9_times 74 = .ok (.iaload, 1) := by decide +kernel
theorem dX9_times_75 : decode cX9_times 75 = .ok (.bipush 16, 2) := by decide +kernel
theorem dX9_times_77 : decode cX9_times 77 = .ok (.if_icmp .le 6, 3) := by decide +kernel
theorem dX9_times_80 : decode cX9_times 80 = .ok (.bipush (-2), 2) := by decide +kernel
theorem dX9_times_82 : decode cX9_times 82 = .ok (.ireturn, 1) := by decide +kernel
theorem dX9_times_83 : decode cX9_times 83 = .ok (.aload_n 0, 1) := by decide +kernel
theorem dX9_times_84 : decode cX9_times 84 = .ok (.iload_n 3, 1) := by decide +kernel
theorem dX9_times_85 : decode cX9_times 85 = .ok (.bipush 8, 2) := by decide +kernel
theorem dX9_times_87 : decode cX9_times 87 = .ok (.invokevirtual 140, 3) := by decide +kernel
theorem dX9_times_90 : decode cX9_times 90 = .ok (.aload_n 0, 1) := by decide +kernel
theorem dX9_times_91 : decode cX9_times 91 = .ok (.getfield 32, 3) := by decide +kernel
theorem dX9_times_94 : decode cX9_times 94 = .ok (.iload_n 3, 1) := by decide +kernel
theorem dX9_times_95 : decode cX9_times 95 = .ok (.iaload, 1) := by decide +kernel
theorem dX9_times_96 : decode cX9_times 96 = .ok (.ireturn, 1) := by decide +kernel
theorem dX9_turn_0 : decode cX9_turn 0 = .ok (.iload_n 1, 1) := by decide +kernel
theorem dX9_turn_1 : decode cX9_turn 1 = .ok (.invokestatic 137, 3) := by decide +kernel
theorem dX9_turn_4 : decode cX9_turn 4 = .ok (.ifCond .eq 10, 3) := by decide +kernel
theorem dX9_turn_7 : decode cX9_turn 7 = .ok (.iload_n 2, 1) := by decide +kernel
theorem dX9_turn_8 : decode cX9_turn 8 = .ok (.invokestatic 137, 3) := by decide +kernel
theorem dX9_turn_11 : decode cX9_turn 11 = .ok (.ifCond .ne 5, 3) := by decide +kernel
theorem dX9_turn_14 : decode cX9_turn 14 = .ok (.iconst (-1), 1) := by decide +kernel
theorem dX9_turn_15 : decode cX9_turn 15 = .ok (.ireturn, 1) := by decide +kernel
theorem dX9_turn_16 : decode cX9_turn 16 = .ok (.aload_n 0, 1) := by decide +kernel
theorem dX9_turn_17 : decode cX9_turn 17 = .ok (.getfield 32, 3) := by decide +kernel
theorem dX9_turn_20 : decode cX9_turn 20 = .ok (.bipush 8, 2) := by decide +kernel
theorem dX9_turn_22 : decode cX9_turn 22 = .ok (.iconst 0, 1) := by decide +kernel
theorem dX9_turn_23 : decode cX9_turn 23 = .ok (.iastore, 1) := by decide +kernel
theorem dX9_turn_24 : decode cX9_turn 24 = .ok (.aload_n 0, 1) := by decide +kernel
theorem dX9_turn_25 : decode cX9_turn 25 = .ok (.getfield 32, 3) := by decide +kernel
theorem dX9_turn_28 : decode cX9_turn 28 = .ok (.iload_n 1, 1) := by decide +kernel
theorem dX9_turn_29 : decode cX9_turn 29 = .ok (.iaload, 1) := by decide +kernel
theorem dX9_turn_30 : decode cX9_turn 30 = .ok (.iconst 1, 1) := by decide +kernel
theorem dX9_turn_31 : decode cX9_turn 31 = .ok (.isub, 1) := by decide +kernel
theorem dX9_turn_32 : decode cX9_turn 32 = .ok (.istore_n 3, 1) := by decide +kernel
theorem dX9_turn_33 : decode cX9_turn 33 = .ok (.iload_n 3, 1) := by decide +kernel
theorem dX9_turn_34 : decode cX9_turn 34 = .ok (.ifCond .lt 58, 3) := by decide +kernel
theorem dX9_turn_37 : decode cX9_turn 37 = .ok (.aload_n 0, 1) := by decide +kernel
theorem dX9_turn_38 : decode cX9_turn 38 = .ok (.getfield 29, 3) := by decide +kernel
theorem dX9_turn_41 : decode cX9_turn 41 = .ok (.bipush 34, 2) := by decide +kernel
theorem dX9_turn_43 : decode cX9_turn 43 = .ok (.iload_n 1, 1) := by decide +kernel
theorem dX9_turn_44 : decode cX9_turn 44 = .ok (.imul, 1) := by decide +kernel
theorem dX9_turn_45 : decode cX9_turn 45 = .ok (.iload_n 3, 1) := by decide +kernel
theorem dX9_turn_46 : decode cX9_turn 46 = .ok (.iadd, 1) := by decide +kernel
theorem dX9_turn_47 : decode cX9_turn 47 = .ok (.iaload, 1) := by decide +kernel
theorem dX9_turn_48 : decode cX9_turn 48 = .ok (.istore 4, 2) := by decide +kernel
theorem dX9_turn_50 : decode cX9_turn 50 = .ok (.aload_n 0, 1) := by decide +kernel
theorem dX9_turn_51 : decode cX9_turn 51 = .ok (.iload 4, 2) := by decide +kernel
theorem dX9_turn_53 : decode cX9_turn 53 = .ok (.ifCond .ge 11, 3) := by decide +kernel
theorem dX9_turn_56 : decode cX9_turn 56 = .ok (.iload 4, 2) := by decide +kernel
theorem dX9_turn_58 : decode cX9_turn 58 = .ok (.ineg, 1) := by decide +kernel
theorem dX9_turn_59 : decode cX9_turn 59 = .ok (.iconst 1, 1) := by decide +kernel
theorem dX9_turn_60 : decode cX9_turn 60 = .ok (.isub, 1) := by decide +kernel
theorem dX9_turn_61 : decode cX9_turn 61 = .ok (.goto 7, 3) := by decide +kernel
theorem dX9_turn_64 : decode cX9_turn 64 = .ok (.iload 4, 2) := by decide +kernel
theorem dX9_turn_66 : decode cX9_turn 66 = .ok (.iconst 1, 1) := by decide +kernel
theorem dX9_turn_67 : decode cX9_turn 67 = .ok (.isub, 1) := by decide +kernel
theorem dX9_turn_68 : decode cX9_turn 68 = .ok (.invokevirtual 124, 3) := by decide +kernel
theorem dX9_turn_71 : decode cX9_turn 71 = .ok (.ifCond .ne 6, 3) := by decide +kernel
theorem dX9_turn_74 : decode cX9_turn 74 = .ok (.bipush (-6), 2) := by decide +kernel
theorem dX9_turn_76 : decode cX9_turn 76 = .ok (.ireturn, 1) := by decide +kernel
theorem dX9_turn_77 : decode cX9_turn 77 = .ok (.aload_n 0, 1) := by decide +kernel
theorem dX9_turn_78 : decode cX9_turn 78 = .ok (.bipush 8, 2) := by decide +kernel
theorem dX9_turn_80 : decode cX9_turn 80 = .ok (.iload 4, 2) := by decide +kernel
theorem dX9_turn_82 : decode cX9_turn 82 = .ok (.ineg, 1) := by decide +kernel
theorem dX9_turn_83 : decode cX9_turn 83 = .ok (.invokevirtual 144, 3) := by decide +kernel
theorem dX9_turn_86 : decode cX9_turn 86 = .ok (.iinc 3 (-1), 3) := by decide +kernel
theorem dX9_turn_89 : decode cX9_turn 89 = .ok (.goto (-56), 3) := by decide +kernel
theorem dX9_turn_92 : decode cX9_turn 92 = .ok (.aload_n 0, 1) := by decide +kernel
theorem dX9_turn_93 : decode cX9_turn 93 = .ok (.iload_n 2, 1) := by decide +kernel
theorem dX9_turn_94 : decode cX9_turn 94 = .ok (.bipush 8, 2) := by decide +kernel
theorem dX9_turn_96 : decode cX9_turn 96 = .ok (.invokevirtual 140, 3) := by decide +kernel
theorem dX9_turn_99 : decode cX9_turn 99 = .ok (.aload_n 0, 1) := by decide +kernel
theorem dX9_turn_100 : decode cX9_turn 100 = .ok (.getfield 32, 3) := by decide +kernel
theorem dX9_turn_103 : decode cX9_turn 103 = .ok (.iload_n 2, 1) := by decide +kernel
theorem dX9_turn_104 : decode cX9_turn 104 = .ok (.iaload, 1) := by decide +kernel
theorem dX9_turn_105 : decode cX9_turn 105 = .ok (.ireturn, 1) := by decide +kernel
theorem dX9_step_0 : decode cX9_step 0 = .ok (.iload_n 1, 1) := by decide +kernel
theorem dX9_step_1 : decode cX9_step 1 = .ok (.ifCond .le 38, 3) := by decide +kernel
theorem dX9_step_4 : decode cX9_step 4 = .ok (.aload_n 0, 1) := by decide +kernel
theorem dX9_step_5 : decode cX9_step 5 = .ok (.aload_n 0, 1) := by decide +kernel
theorem dX9_step_6 : decode cX9_step 6 = .ok (.getfield 23, 3) := by decide +kernel
theorem dX9_step_9 : decode cX9_step 9 = .ok (.iconst 4, 1) := by decide +kernel
theorem dX9_step_10 : decode cX9_step 10 = .ok (.iload_n 1, 1) := by decide +kernel
theorem dX9_step_11 : decode cX9_step 11 = .ok (.iconst 1, 1) := by decide +kernel
theorem dX9_step_12 : decode cX9_step 12 = .ok (.isub, 1) := by decide +kernel
theorem dX9_step_13 : decode cX9_step 13 = .ok (.imul, 1) := by decide +kernel
theorem dX9_step_14 : decode cX9_step 14 = .ok (.iload_n 2, 1) := by decide +kernel
theorem dX9_step_15 : decode cX9_step 15 = .ok (.iadd, 1) := by decide +kernel
theorem dX9_step_16 : decode cX9_step 16 = .ok (.iaload, 1) := by decide +kernel
theorem dX9_step_17 : decode cX9_step 17 = .ok (.putfield 147, 3) := by decide +kernel
theorem dX9_step_20 : decode cX9_step 20 = .ok (.aload_n 0, 1) := by decide +kernel
theorem dX9_step_21 : decode cX9_step 21 = .ok (.aload_n 0, 1) := by decide +kernel
theorem dX9_step_22 : decode cX9_step 22 = .ok (.getfield 26, 3) := by decide +kernel
theorem dX9_step_25 : decode cX9_step 25 = .ok (.iconst 4, 1) := by decide +kernel
theorem dX9_step_26 : decode cX9_step 26 = .ok (.iload_n 1, 1) := by decide +kernel
theorem dX9_step_27 : decode cX9_step 27 = .ok (.iconst 1, 1) := by decide +kernel
theorem dX9_step_28 : decode cX9_step 28 = .ok (.isub, 1) := by decide +kernel
theorem dX9_step_29 : decode cX9_step 29 = .ok (.imul, 1) := by decide +kernel
theorem dX9_step_30 : decode cX9_step 30 = .ok (.iload_n 2, 1) := by decide +kernel
theorem dX9_step_31 : decode cX9_step 31 = .ok (.iadd, 1) := by decide +kernel
theorem dX9_step_32 : decode cX9_step 32 = .ok (.iaload, 1) := by decide +kernel
theorem dX9_step_33 : decode cX9_step 33 = .ok (.iconst 1, 1) := by decide +kernel
end
section
theorem dX9_step_34 : decode cX9_step 34 = .ok (.iadd, 1) := by decide +kernel
theorem dX9_step_35 : decode cX9_step 35 = .ok (.putfield 150, 3) := by decide +kernel
theorem dX9_step_38 : decode cX9_step 38 = .ok (.return_, 1) := by decide +kernel
theorem dX9_step_39 : decode cX9_step 39 = .ok (.iload_n 1, 1) := by decide +kernel
theorem dX9_step_40 : decode cX9_step 40 = .ok (.ineg, 1) := by decide +kernel
theorem dX9_step_41 : decode cX9_step 41 = .ok (.iconst 1, 1) := by decide +kernel
theorem dX9_step_42 : decode cX9_step 42 = .ok (.isub, 1) := by decide +kernel
theorem dX9_step_43 : decode cX9_step 43 = .ok (.istore_n 3, 1) := by decide +kernel
theorem dX9_step_44 : decode cX9_step 44 = .ok (.iconst 0, 1) := by decide +kernel
theorem dX9_step_45 : decode cX9_step 45 = .ok (.istore 4, 2) := by decide +kernel
theorem dX9_step_47 : decode cX9_step 47 = .ok (.iload 4, 2) := by decide +kernel
theorem dX9_step_49 : decode cX9_step 49 = .ok (.aload_n 0, 1) := by decide +kernel
theorem dX9_step_50 : decode cX9_step 50 = .ok (.getfield 19, 3) := by decide +kernel
theorem dX9_step_53 : decode cX9_step 53 = .ok (.if_icmp .ge 48, 3) := by decide +kernel
theorem dX9_step_56 : decode cX9_step 56 = .ok (.aload_n 0, 1) := by decide +kernel
theorem dX9_step_57 : decode cX9_step 57 = .ok (.getfield 23, 3) := by decide +kernel
theorem dX9_step_60 : decode cX9_step 60 = .ok (.iconst 4, 1) := by decide +kernel
theorem dX9_step_61 : decode cX9_step 61 = .ok (.iload_n 3, 1) := by decide +kernel
theorem dX9_step_62 : decode cX9_step 62 = .ok (.imul, 1) := by decide +kernel
theorem dX9_step_63 : decode cX9_step 63 = .ok (.iload 4, 2) := by decide +kernel
theorem dX9_step_65 : decode cX9_step 65 = .ok (.iadd, 1) := by decide +kernel
theorem dX9_step_66 : decode cX9_step 66 = .ok (.iaload, 1) := by decide +kernel
theorem dX9_step_67 : decode cX9_step 67 = .ok (.iload_n 2, 1) := by decide +kernel
theorem dX9_step_68 : decode cX9_step 68 = .ok (.if_icmp .ne 27, 3) := by decide +kernel
theorem dX9_step_71 : decode cX9_step 71 = .ok (.aload_n 0, 1) := by decide +kernel
theorem dX9_step_72 : decode cX9_step 72 = .ok (.iload 4, 2) := by decide +kernel
theorem dX9_step_74 : decode cX9_step 74 = .ok (.putfield 147, 3) := by decide +kernel
theorem dX9_step_77 : decode cX9_step 77 = .ok (.aload_n 0, 1) := by decide +kernel
theorem dX9_step_78 : decode cX9_step 78 = .ok (.aload_n 0, 1) := by decide +kernel
theorem dX9_step_79 : decode cX9_step 79 = .ok (.getfield 26, 3) := by decide +kernel
theorem dX9_step_82 : decode cX9_step 82 = .ok (.iconst 4, 1) := by decide +kernel
theorem dX9_step_83 : decode cX9_step 83 = .ok (.iload_n 3, 1) := by decide +kernel
theorem dX9_step_84 : decode cX9_step 84 = .ok (.imul, 1) := by decide +kernel
theorem dX9_step_85 : decode cX9_step 85 = .ok (.iload 4, 2) := by decide +kernel
theorem dX9_step_87 : decode cX9_step 87 = .ok (.iadd, 1) := by decide +kernel
theorem dX9_step_88 : decode cX9_step 88 = .ok (.iaload, 1) := by decide +kernel
theorem dX9_step_89 : decode cX9_step 89 = .ok (.ineg, 1) := by decide +kernel
theorem dX9_step_90 : decode cX9_step 90 = .ok (.iconst 1, 1) := by decide +kernel
theorem dX9_step_91 : decode cX9_step 91 = .ok (.isub, 1) := by decide +kernel
theorem dX9_step_92 : decode cX9_step 92 = .ok (.putfield 150, 3) := by decide +kernel
theorem dX9_step_95 : decode cX9_step 95 = .ok (.iinc 4 1, 3) := by decide +kernel
theorem dX9_step_98 : decode cX9_step 98 = .ok (.goto (-51), 3) := by decide +kernel
theorem dX9_step_101 : decode cX9_step 101 = .ok (.return_, 1) := by decide +kernel
theorem dX9_partAt_0 : decode cX9_partAt 0 = .ok (.iload_n 2, 1) := by decide +kernel
theorem dX9_partAt_1 : decode cX9_partAt 1 = .ok (.istore 4, 2) := by decide +kernel
theorem dX9_partAt_3 : decode cX9_partAt 3 = .ok (.aload_n 0, 1) := by decide +kernel
theorem dX9_partAt_4 : decode cX9_partAt 4 = .ok (.getfield 32, 3) := by decide +kernel
theorem dX9_partAt_7 : decode cX9_partAt 7 = .ok (.iload_n 3, 1) := by decide +kernel
theorem dX9_partAt_8 : decode cX9_partAt 8 = .ok (.iconst 0, 1) := by decide +kernel
theorem dX9_partAt_9 : decode cX9_partAt 9 = .ok (.iastore, 1) := by decide +kernel
theorem dX9_partAt_10 : decode cX9_partAt 10 = .ok (.iconst 0, 1) := by decide +kernel
theorem dX9_partAt_11 : decode cX9_partAt 11 = .ok (.istore 5, 2) := by decide +kernel
theorem dX9_partAt_13 : decode cX9_partAt 13 = .ok (.iload 5, 2) := by decide +kernel
theorem dX9_partAt_15 : decode cX9_partAt 15 = .ok (.aload_n 0, 1) := by decide +kernel
theorem dX9_partAt_16 : decode cX9_partAt 16 = .ok (.getfield 32, 3) := by decide +kernel
theorem dX9_partAt_19 : decode cX9_partAt 19 = .ok (.iload_n 1, 1) := by decide +kernel
theorem dX9_partAt_20 : decode cX9_partAt 20 = .ok (.iaload, 1) := by decide +kernel
theorem dX9_partAt_21 : decode cX9_partAt 21 = .ok (.if_icmp .ge 49, 3) := by decide +kernel
theorem dX9_partAt_24 : decode cX9_partAt 24 = .ok (.aload_n 0, 1) := by decide +kernel
theorem dX9_partAt_25 : decode cX9_partAt 25 = .ok (.aload_n 0, 1) := by decide +kernel
theorem dX9_partAt_26 : decode cX9_partAt 26 = .ok (.getfield 29, 3) := by decide +kernel
theorem dX9_partAt_29 : decode cX9_partAt 29 = .ok (.bipush 34, 2) := by decide +kernel
theorem dX9_partAt_31 : decode cX9_partAt 31 = .ok (.iload_n 1, 1) := by decide +kernel
theorem dX9_partAt_32 : decode cX9_partAt 32 = .ok (.imul, 1) := by decide +kernel
theorem dX9_partAt_33 : decode cX9_partAt 33 = .ok (.iload 5, 2) := by decide +kernel
theorem dX9_partAt_35 : decode cX9_partAt 35 = .ok (.iadd, 1) := by decide +kernel
theorem dX9_partAt_36 : decode cX9_partAt 36 = .ok (.iaload, 1) := by decide +kernel
theorem dX9_partAt_37 : decode cX9_partAt 37 = .ok (.iload 4, 2) := by decide +kernel
theorem dX9_partAt_39 : decode cX9_partAt 39 = .ok (.invokevirtual 153, 3) := by decide +kernel
theorem dX9_partAt_42 : decode cX9_partAt 42 = .ok (.aload_n 0, 1) := by decide +kernel
theorem dX9_partAt_43 : decode cX9_partAt 43 = .ok (.getfield 147, 3) := by decide +kernel
theorem dX9_partAt_46 : decode cX9_partAt 46 = .ok (.istore 4, 2) := by decide +kernel
theorem dX9_partAt_48 : decode cX9_partAt 48 = .ok (.aload_n 0, 1) := by decide +kernel
theorem dX9_partAt_49 : decode cX9_partAt 49 = .ok (.getfield 150, 3) := by decide +kernel
theorem dX9_partAt_52 : decode cX9_partAt 52 = .ok (.ifCond .eq 12, 3) := by decide +kernel
theorem dX9_partAt_55 : decode cX9_partAt 55 = .ok (.aload_n 0, 1) := by decide +kernel
theorem dX9_partAt_56 : decode cX9_partAt 56 = .ok (.iload_n 3, 1) := by decide +kernel
theorem dX9_partAt_57 : decode cX9_partAt 57 = .ok (.aload_n 0, 1) := by decide +kernel
theorem dX9_partAt_58 : decode cX9_partAt 58 = .ok (.getfield 150, 3) := by decide +kernel
theorem dX9_partAt_61 : decode cX9_partAt 61 = .ok (.invokevirtual 144, 3) := by decide +kernel
theorem dX9_partAt_64 : decode cX9_partAt 64 = .ok (.iinc 5 1, 3) := by decide +kernel
theorem dX9_partAt_67 : decode cX9_partAt 67 = .ok (.goto (-54), 3) := by decide +kernel
theorem dX9_partAt_70 : decode cX9_partAt 70 = .ok (.iload 4, 2) := by decide +kernel
theorem dX9_partAt_72 : decode cX9_partAt 72 = .ok (.ireturn, 1) := by decide +kernel
theorem dX9_takeRow_0 : decode cX9_takeRow 0 = .ok (.aload_n 0, 1) := by decide +kernel
theorem dX9_takeRow_1 : decode cX9_takeRow 1 = .ok (.iconst 0, 1) := by decide +kernel
theorem dX9_takeRow_2 : decode cX9_takeRow 2 = .ok (.putfield 156, 3) := by decide +kernel
theorem dX9_takeRow_5 : decode cX9_takeRow 5 = .ok (.iload_n 1, 1) := by decide +kernel
theorem dX9_takeRow_6 : decode cX9_takeRow 6 = .ok (.istore_n 3, 1) := by decide +kernel
theorem dX9_takeRow_7 : decode cX9_takeRow 7 = .ok (.iload_n 1, 1) := by decide +kernel
theorem dX9_takeRow_8 : decode cX9_takeRow 8 = .ok (.iconst 1, 1) := by decide +kernel
theorem dX9_takeRow_9 : decode cX9_takeRow 9 = .ok (.if_icmp .lt 7, 3) := by decide +kernel
theorem dX9_takeRow_12 : decode cX9_takeRow 12 = .ok (.iconst 1, 1) := by decide +kernel
theorem dX9_takeRow_13 : decode cX9_takeRow 13 = .ok (.goto 4, 3) := by decide +kernel
theorem dX9_takeRow_16 : decode cX9_takeRow 16 = .ok (.iconst 0, 1) := by decide +kernel
theorem dX9_takeRow_17 : decode cX9_takeRow 17 = .ok (.istore 4, 2) := by decide +kernel
theorem dX9_takeRow_19 : decode cX9_takeRow 19 = .ok (.iload 4, 2) := by decide +kernel
theorem dX9_takeRow_21 : decode cX9_takeRow 21 = .ok (.ifCond .eq 55, 3) := by decide +kernel
theorem dX9_takeRow_24 : decode cX9_takeRow 24 = .ok (.iload_n 3, 1) := by decide +kernel
theorem dX9_takeRow_25 : decode cX9_takeRow 25 = .ok (.iconst 1, 1) := by decide +kernel
theorem dX9_takeRow_26 : decode cX9_takeRow 26 = .ok (.if_icmp .le 50, 3) := by decide +kernel
theorem dX9_takeRow_29 : decode cX9_takeRow 29 = .ok (.iload_n 3, 1) := by decide +kernel
theorem dX9_takeRow_30 : decode cX9_takeRow 30 = .ok (.iconst 4, 1) := by decide +kernel
theorem dX9_takeRow_31 : decode cX9_takeRow 31 = .ok (.if_icmp .lt 25, 3) := by decide +kernel
theorem dX9_takeRow_34 : decode cX9_takeRow 34 = .ok (.iload_n 3, 1) := by decide +kernel
theorem dX9_takeRow_35 : decode cX9_takeRow 35 = .ok (.iconst 4, 1) := by decide +kernel
theorem dX9_takeRow_36 : decode cX9_takeRow 36 = .ok (.irem, 1) := by decide +kernel
theorem dX9_takeRow_37 : decode cX9_takeRow 37 = .ok (.aload_n 0, 1) := by decide +kernel
theorem dX9_takeRow_38 : decode cX9_takeRow 38 = .ok (.getfield 19, 3) := by decide +kernel
theorem dX9_takeRow_41 : decode cX9_takeRow 41 = .ok (.if_icmp .ge 15, 3) := by decide +kernel
theorem dX9_takeRow_44 : decode cX9_takeRow 44 = .ok (.aload_n 0, 1) := by decide +kernel
theorem dX9_takeRow_45 : decode cX9_takeRow 45 = .ok (.getfield 156, 3) := by decide +kernel
theorem dX9_takeRow_48 : decode cX9_takeRow 48 = .ok (.iload_n 2, 1) := by decide +kernel
theorem dX9_takeRow_49 : decode cX9_takeRow 49 = .ok (.if_icmp .ge 7, 3) := by decide +kernel
theorem dX9_takeRow_52 : decode cX9_takeRow 52 = .ok (.iconst 1, 1) := by decide +kernel
theorem dX9_takeRow_53 : decode cX9_takeRow 53 = .ok (.goto 4, 3) := by decide +kernel
theorem dX9_takeRow_56 : decode cX9_takeRow 56 = .ok (.iconst 0, 1) := by decide +kernel
theorem dX9_takeRow_57 : decode cX9_takeRow 57 = .ok (.istore 4, 2) := by decide +kernel
theorem dX9_takeRow_59 : decode cX9_takeRow 59 = .ok (.iload_n 3, 1) := by decide +kernel
theorem dX9_takeRow_60 : decode cX9_takeRow 60 = .ok (.iconst 4, 1) := by decide +kernel
theorem dX9_takeRow_61 : decode cX9_takeRow 61 = .ok (.idiv, 1) := by decide +kernel
theorem dX9_takeRow_62 : decode cX9_takeRow 62 = .ok (.istore_n 3, 1) := by decide +kernel
theorem dX9_takeRow_63 : decode cX9_takeRow 63 = .ok (.aload_n 0, 1) := by decide +kernel
theorem dX9_takeRow_64 : decode cX9_takeRow 64 = .ok (.dup, 1) := by decide +kernel
theorem dX9_takeRow_65 : decode cX9_takeRow 65 = .ok (.getfield 156, 3) := by decide +kernel
theorem dX9_takeRow_68 : decode cX9_takeRow 68 = .ok (.iconst 1, 1) := by decide +kernel
theorem dX9_takeRow_69 : decode cX9_takeRow 69 = .ok (.iadd, 1) := by decide +kernel
theorem dX9_takeRow_70 : decode cX9_takeRow 70 = .ok (.putfield 156, 3) := by decide +kernel
theorem dX9_takeRow_73 : decode cX9_takeRow 73 = .ok (.goto (-54), 3) := by decide +kernel
theorem dX9_takeRow_76 : decode cX9_takeRow 76 = .ok (.iload 4, 2) := by decide +kernel
theorem dX9_takeRow_78 : decode cX9_takeRow 78 = .ok (.ifCond .ne 5, 3) := by decide +kernel
theorem dX9_takeRow_81 : decode cX9_takeRow 81 = .ok (.iconst 0, 1) := by decide +kernel
theorem dX9_takeRow_82 : decode cX9_takeRow 82 = .ok (.ireturn, 1) := by decide +kernel
theorem dX9_takeRow_83 : decode cX9_takeRow 83 = .ok (.iload_n 1, 1) := by decide +kernel
theorem dX9_takeRow_84 : decode cX9_takeRow 84 = .ok (.istore_n 3, 1) := by decide +kernel
theorem dX9_takeRow_85 : decode cX9_takeRow 85 = .ok (.aload_n 0, 1) := by decide +kernel
theorem dX9_takeRow_86 : decode cX9_takeRow 86 = .ok (.getfield 156, 3) := by decide +kernel
theorem dX9_takeRow_89 : decode cX9_takeRow 89 = .ok (.iconst 1, 1) := by decide +kernel
theorem dX9_takeRow_90 : decode cX9_takeRow 90 = .ok (.isub, 1) := by decide +kernel
theorem dX9_takeRow_91 : decode cX9_takeRow 91 = .ok (.istore 5, 2) := by decide +kernel
theorem dX9_takeRow_93 : decode cX9_takeRow 93 = .ok (.iload 5, 2) := by decide +kernel
theorem dX9_takeRow_95 : decode cX9_takeRow 95 = .ok (.ifCond .lt 23, 3) := by decide +kernel
theorem dX9_takeRow_98 : decode cX9_takeRow 98 = .ok (.aload_n 0, 1) := by decide +kernel
theorem dX9_takeRow_99 : decode cX9_takeRow 99 = .ok (.getfield 45, 3) := by decide +kernel
theorem dX9_takeRow_102 : decode cX9_takeRow 102 = .ok (.iload 5, 2) := by decide +kernel
theorem dX9_takeRow_104 : decode cX9_takeRow 104 = .ok (.iload_n 3, 1) := by decide +kernel
theorem dX9_takeRow_105 : decode cX9_takeRow 105 = .ok (.iconst 4, 1) := by decide +kernel
theorem dX9_takeRow_106 : decode cX9_takeRow 106 = .ok (.irem, 1) := by decide +kernel
theorem dX9_takeRow_107 : decode cX9_takeRow 107 = .ok (.iastore, 1) := by decide +kernel
theorem dX9_takeRow_108 : decode cX9_takeRow 108 = .ok (.iload_n 3, 1) := by decide +kernel
theorem dX9_takeRow_109 : decode cX9_takeRow 109 = .ok (.iconst 4, 1) := by decide +kernel
theorem dX9_takeRow_110 : decode cX9_takeRow 110 = .ok (.idiv, 1) := by decide +kernel
theorem dX9_takeRow_111 : decode cX9_takeRow 111 = .ok (.istore_n 3, 1) := by decide +kernel
theorem dX9_takeRow_112 : decode cX9_takeRow 112 = .ok (.iinc 5 (-1), 3) := by decide +kernel
theorem dX9_takeRow_115 : decode cX9_takeRow 115 = .ok (.goto (-22), 3) := by decide +kernel
theorem dX9_takeRow_118 : decode cX9_takeRow 118 = .ok (.iconst 1, 1) := by decide +kernel
theorem dX9_takeRow_119 : decode cX9_takeRow 119 = .ok (.ireturn, 1) := by decide +kernel
theorem dX9_rowNumber_0 : decode cX9_rowNumber 0 = .ok (.iconst 1, 1) := by decide +kernel
theorem dX9_rowNumber_1 : decode cX9_rowNumber 1 = .ok (.istore_n 1, 1) := by decide +kernel
theorem dX9_rowNumber_2 : decode cX9_rowNumber 2 = .ok (.iconst 0, 1) := by decide +kernel
theorem dX9_rowNumber_3 : decode cX9_rowNumber 3 = .ok (.istore_n 2, 1) := by decide +kernel
theorem dX9_rowNumber_4 : decode cX9_rowNumber 4 = .ok (.iload_n 2, 1) := by decide +kernel
theorem dX9_rowNumber_5 : decode cX9_rowNumber 5 = .ok (.aload_n 0, 1) := by decide +kernel
theorem dX9_rowNumber_6 : decode cX9_rowNumber 6 = .ok (.getfield 156, 3) := by decide +kernel
theorem dX9_rowNumber_9 : decode cX9_rowNumber 9 = .ok (.if_icmp .ge 20, 3) := by decide +kernel
theorem dX9_rowNumber_12 : decode cX9_rowNumber 12 = .ok (.iconst 4, 1) := by decide +kernel
theorem dX9_rowNumber_13 : decode cX9_rowNumber 13 = .ok (.iload_n 1, 1) := by decide +kernel
theorem dX9_rowNumber_14 : decode cX9_rowNumber 14 = .ok (.imul, 1) := by decide +kernel
theorem dX9_rowNumber_15 : decode cX9_rowNumber 15 = .ok (.aload_n 0, 1) := by decide +kernel
theorem dX9_rowNumber_16 : decode cX9_rowNumber 16 = .ok (.getfield 45, 3) := by decide +kernel
theorem dX9_rowNumber_19 : decode cX9_rowNumber 19 = .ok (.iload_n 2, 1) := by decide +kernel
theorem dX9_rowNumber_20 : decode cX9_rowNumber 20 = .ok (.iaload, 1) := by decide +kernel
theorem dX9_rowNumber_21 : decode cX9_rowNumber 21 = .ok (.iadd, 1) := by decide +kernel
theorem dX9_rowNumber_22 : decode cX9_rowNumber 22 = .ok (.istore_n 1, 1) := by decide +kernel
theorem dX9_rowNumber_23 : decode cX9_rowNumber 23 = .ok (.iinc 2 1, 3) := by decide +kernel
theorem dX9_rowNumber_26 : decode cX9_rowNumber 26 = .ok (.goto (-22), 3) := by decide +kernel
theorem dX9_rowNumber_29 : decode cX9_rowNumber 29 = .ok (.iload_n 1, 1) := by decide +kernel
theorem dX9_rowNumber_30 : decode cX9_rowNumber 30 = .ok (.ireturn, 1) := by decide +kernel
theorem dX9_rewrite_0 : decode cX9_rewrite 0 = .ok (.iload_n 1, 1) := by decide +kernel
theorem dX9_rewrite_1 : decode cX9_rewrite 1 = .ok (.istore_n 2, 1) := by decide +kernel
theorem dX9_rewrite_2 : decode cX9_rewrite 2 = .ok (.iconst 0, 1) := by decide +kernel
theorem dX9_rewrite_3 : decode cX9_rewrite 3 = .ok (.istore_n 3, 1) := by decide +kernel
theorem dX9_rewrite_4 : decode cX9_rewrite 4 = .ok (.iload_n 3, 1) := by decide +kernel
theorem dX9_rewrite_5 : decode cX9_rewrite 5 = .ok (.aload_n 0, 1) := by decide +kernel
theorem dX9_rewrite_6 : decode cX9_rewrite 6 = .ok (.getfield 156, 3) := by decide +kernel
theorem dX9_rewrite_9 : decode cX9_rewrite 9 = .ok (.if_icmp .ge 39, 3) := by decide +kernel
theorem dX9_rewrite_12 : decode cX9_rewrite 12 = .ok (.iload_n 2, 1) := by decide +kernel
theorem dX9_rewrite_13 : decode cX9_rewrite 13 = .ok (.ifCond .eq 35, 3) := by decide +kernel
theorem dX9_rewrite_16 : decode cX9_rewrite 16 = .ok (.aload_n 0, 1) := by decide +kernel
theorem dX9_rewrite_17 : decode cX9_rewrite 17 = .ok (.iload_n 2, 1) := by decide +kernel
theorem dX9_rewrite_18 : decode cX9_rewrite 18 = .ok (.aload_n 0, 1) := by decide +kernel
theorem dX9_rewrite_19 : decode cX9_rewrite 19 = .ok (.getfield 45, 3) := by decide +kernel
theorem dX9_rewrite_22 : decode cX9_rewrite 22 = .ok (.iload_n 3, 1) := by decide +kernel
theorem dX9_rewrite_23 : decode cX9_rewrite 23 = .ok (.iaload, 1) := by decide +kernel
theorem dX9_rewrite_24 : decode cX9_rewrite 24 = .ok (.invokevirtual 153, 3) := by decide +kernel
theorem dX9_rewrite_27 : decode cX9_rewrite 27 = .ok (.aload_n 0, 1) := by decide +kernel
theorem dX9_rewrite_28 : decode cX9_rewrite 28 = .ok (.getfield 45, 3) := by decide +kernel
theorem dX9_rewrite_31 : decode cX9_rewrite 31 = .ok (.iload_n 3, 1) := by decide +kernel
theorem dX9_rewrite_32 : decode cX9_rewrite 32 = .ok (.aload_n 0, 1) := by decide +kernel
theorem dX9_rewrite_33 : decode cX9_rewrite 33 = .ok (.getfield 147, 3) := by decide +kernel
theorem dX9_rewrite_36 : decode cX9_rewrite 36 = .ok (.iastore, 1) := by decide +kernel
theorem dX9_rewrite_37 : decode cX9_rewrite 37 = .ok (.aload_n 0, 1) := by decide +kernel
theorem dX9_rewrite_38 : decode cX9_rewrite 38 = .ok (.getfield 150, 3) := by decide +kernel
theorem dX9_rewrite_41 : decode cX9_rewrite 41 = .ok (.istore_n 2, 1) := by decide +kernel
theorem dX9_rewrite_42 : decode cX9_rewrite 42 = .ok (.iinc 3 1, 3) := by decide +kernel
theorem dX9_rewrite_45 : decode cX9_rewrite 45 = .ok (.goto (-41), 3) := by decide +kernel
theorem dX9_rewrite_48 : decode cX9_rewrite 48 = .ok (.return_, 1) := by decide +kernel
theorem dX9_act_0 : decode cX9_act 0 = .ok (.iload_n 1, 1) := by decide +kernel
theorem dX9_act_1 : decode cX9_act 1 = .ok (.invokestatic 137, 3) := by decide +kernel
theorem dX9_act_4 : decode cX9_act 4 = .ok (.ifCond .eq 13, 3) := by decide +kernel
theorem dX9_act_7 : decode cX9_act 7 = .ok (.aload_n 0, 1) := by decide +kernel
theorem dX9_act_8 : decode cX9_act 8 = .ok (.iload_n 2, 1) := by decide +kernel
theorem dX9_act_9 : decode cX9_act 9 = .ok (.bipush 10, 2) := by decide +kernel
theorem dX9_act_11 : decode cX9_act 11 = .ok (.invokevirtual 159, 3) := by decide +kernel
theorem dX9_act_14 : decode cX9_act 14 = .ok (.ifCond .ne 5, 3) := by decide +kernel
theorem dX9_act_17 : decode cX9_act 17 = .ok (.iconst (-1), 1) := by decide +kernel
theorem dX9_act_18 : decode cX9_act 18 = .ok (.ireturn, 1) := by decide +kernel
theorem dX9_act_19 : decode cX9_act 19 = .ok (.aload_n 0, 1) := by decide +kernel
theorem dX9_act_20 : decode cX9_act 20 = .ok (.invokevirtual 133, 3) := by decide +kernel
theorem dX9_act_23 : decode cX9_act 23 = .ok (.ifCond .ne 6, 3) := by decide +kernel
theorem dX9_act_26 : decode cX9_act 26 = .ok (.bipush (-5), 2) := by decide +kernel
theorem dX9_act_28 : decode cX9_act 28 = .ok (.ireturn, 1) := by decide +kernel
theorem dX9_act_29 : decode cX9_act 29 = .ok (.iconst 0, 1) := by decide +kernel
theorem dX9_act_30 : decode cX9_act 30 = .ok (.istore_n 3, 1) := by decide +kernel
theorem dX9_act_31 : decode cX9_act 31 = .ok (.iload_n 3, 1) := by decide +kernel
theorem dX9_act_32 : decode cX9_act 32 = .ok (.aload_n 0, 1) := by decide +kernel
theorem dX9_act_33 : decode cX9_act 33 = .ok (.getfield 32, 3) := by decide +kernel
theorem dX9_act_36 : decode cX9_act 36 = .ok (.iload_n 1, 1) := by decide +kernel
theorem dX9_act_37 : decode cX9_act 37 = .ok (.iaload, 1) := by decide +kernel
theorem dX9_act_38 : decode cX9_act 38 = .ok (.if_icmp .ge 24, 3) := by decide +kernel
theorem dX9_act_41 : decode cX9_act 41 = .ok (.aload_n 0, 1) := by decide +kernel
theorem dX9_act_42 : decode cX9_act 42 = .ok (.aload_n 0, 1) := by decide +kernel
theorem dX9_act_43 : decode cX9_act 43 = .ok (.getfield 29, 3) := by decide +kernel
theorem dX9_act_46 : decode cX9_act 46 = .ok (.bipush 34, 2) := by decide +kernel
theorem dX9_act_48 : decode cX9_act 48 = .ok (.iload_n 1, 1) := by decide +kernel
theorem dX9_act_49 : decode cX9_act 49 = .ok (.imul, 1) := by decide +kernel
theorem dX9_act_50 : decode cX9_act 50 = .ok (.iload_n 3, 1) := by decide +kernel
theorem dX9_act_51 : decode cX9_act 51 = .ok (.iadd, 1) := by decide +kernel
theorem dX9_act_52 : decode cX9_act 52 = .ok (.iaload, 1) := by decide +kernel
theorem dX9_act_53 : decode cX9_act 53 = .ok (.invokevirtual 163, 3) := by decide +kernel
theorem dX9_act_56 : decode cX9_act 56 = .ok (.iinc 3 1, 3) := by decide +kernel
theorem dX9_act_59 : decode cX9_act 59 = .ok (.goto (-28), 3) := by decide +kernel
theorem dX9_act_62 : decode cX9_act 62 = .ok (.aload_n 0, 1) := by decide +kernel
theorem dX9_act_63 : decode cX9_act 63 = .ok (.invokevirtual 167, 3) := by decide +kernel
theorem dX9_act_66 : decode cX9_act 66 = .ok (.ireturn, 1) := by decide +kernel
theorem dX9_partAtRow_0 : decode cX9_partAtRow 0 = .ok (.aload_n 0, 1) := by decide +kernel
theorem dX9_partAtRow_1 : decode cX9_partAtRow 1 = .ok (.iload_n 2, 1) := by decide +kernel
theorem dX9_partAtRow_2 : decode cX9_partAtRow 2 = .ok (.iload_n 1, 1) := by decide +kernel
theorem dX9_partAtRow_3 : decode cX9_partAtRow 3 = .ok (.invokevirtual 140, 3) := by decide +kernel
theorem dX9_partAtRow_6 : decode cX9_partAtRow 6 = .ok (.iconst 0, 1) := by decide +kernel
theorem dX9_partAtRow_7 : decode cX9_partAtRow 7 = .ok (.istore_n 3, 1) := by decide +kernel
theorem dX9_partAtRow_8 : decode cX9_partAtRow 8 = .ok (.iload_n 3, 1) := by decide +kernel
theorem dX9_partAtRow_9 : decode cX9_partAtRow 9 = .ok (.aload_n 0, 1) := by decide +kernel
theorem dX9_partAtRow_10 : decode cX9_partAtRow 10 = .ok (.getfield 156, 3) := by decide +kernel
theorem dX9_partAtRow_13 : decode cX9_partAtRow 13 = .ok (.if_icmp .ge 31, 3) := by decide +kernel
theorem dX9_partAtRow_16 : decode cX9_partAtRow 16 = .ok (.aload_n 0, 1) := by decide +kernel
theorem dX9_partAtRow_17 : decode cX9_partAtRow 17 = .ok (.iload_n 2, 1) := by decide +kernel
theorem dX9_partAtRow_18 : decode cX9_partAtRow 18 = .ok (.aload_n 0, 1) := by decide +kernel
theorem dX9_partAtRow_19 : decode cX9_partAtRow 19 = .ok (.getfield 45, 3) := by decide +kernel
theorem dX9_partAtRow_22 : decode cX9_partAtRow 22 = .ok (.iload_n 3, 1) := by decide +kernel
theorem dX9_partAtRow_23 : decode cX9_partAtRow 23 = .ok (.iaload, 1) := by decide +kernel
theorem dX9_partAtRow_24 : decode cX9_partAtRow 24 = .ok (.bipush 11, 2) := by decide +kernel
theorem dX9_partAtRow_26 : decode cX9_partAtRow 26 = .ok (.invokevirtual 171, 3) := by decide +kernel
theorem dX9_partAtRow_29 : decode cX9_partAtRow 29 = .ok (.istore 4, 2) := by decide +kernel
theorem dX9_partAtRow_31 : decode cX9_partAtRow 31 = .ok (.aload_n 0, 1) := by decide +kernel
theorem dX9_partAtRow_32 : decode cX9_partAtRow 32 = .ok (.iload_n 2, 1) := by decide +kernel
theorem dX9_partAtRow_33 : decode cX9_partAtRow 33 = .ok (.bipush 11, 2) := by decide +kernel
theorem dX9_partAtRow_35 : decode cX9_partAtRow 35 = .ok (.invokevirtual 140, 3) := by decide +kernel
theorem dX9_partAtRow_38 : decode cX9_partAtRow 38 = .ok (.iinc 3 1, 3) := by decide +kernel
theorem dX9_partAtRow_41 : decode cX9_partAtRow 41 = .ok (.goto (-33), 3) := by decide +kernel
theorem dX9_partAtRow_44 : decode cX9_partAtRow 44 = .ok (.return_, 1) := by decide +kernel
theorem dX9_part_0 : decode cX9_part 0 = .ok (.iload_n 1, 1) := by decide +kernel
theorem dX9_part_1 : decode cX9_part 1 = .ok (.invokestatic 137, 3) := by decide +kernel
theorem dX9_part_4 : decode cX9_part 4 = .ok (.ifCond .eq 20, 3) := by decide +kernel
theorem dX9_part_7 : decode cX9_part 7 = .ok (.aload_n 0, 1) := by decide +kernel
theorem dX9_part_8 : decode cX9_part 8 = .ok (.iload_n 2, 1) := by decide +kernel
theorem dX9_part_9 : decode cX9_part 9 = .ok (.bipush 10, 2) := by decide +kernel
theorem dX9_part_11 : decode cX9_part 11 = .ok (.invokevirtual 159, 3) := by decide +kernel
theorem dX9_part_14 : decode cX9_part 14 = .ok (.ifCond .eq 10, 3) := by decide +kernel
theorem dX9_part_17 : decode cX9_part 17 = .ok (.iload_n 3, 1) := by decide +kernel
theorem dX9_part_18 : decode cX9_part 18 = .ok (.invokestatic 137, 3) := by decide +kernel
theorem dX9_part_21 : decode cX9_part 21 = .ok (.ifCond .ne 5, 3) := by decide +kernel
theorem dX9_part_24 : decode cX9_part 24 = .ok (.iconst (-1), 1) := by decide +kernel
theorem dX9_part_25 : decode cX9_part 25 = .ok (.ireturn, 1) := by decide +kernel
theorem dX9_part_26 : decode cX9_part 26 = .ok (.aload_n 0, 1) := by decide +kernel
theorem dX9_part_27 : decode cX9_part 27 = .ok (.invokevirtual 133, 3) := by decide +kernel
theorem dX9_part_30 : decode cX9_part 30 = .ok (.ifCond .ne 6, 3) := by decide +kernel
theorem dX9_part_33 : decode cX9_part 33 = .ok (.bipush (-5), 2) := by decide +kernel
theorem dX9_part_35 : decode cX9_part 35 = .ok (.ireturn, 1) := by decide +kernel
theorem dX9_part_36 : decode cX9_part 36 = .ok (.aload_n 0, 1) := by decide +kernel
theorem dX9_part_37 : decode cX9_part 37 = .ok (.iload_n 1, 1) := by decide +kernel
theorem dX9_part_38 : decode cX9_part 38 = .ok (.bipush 8, 2) := by decide +kernel
theorem dX9_part_40 : decode cX9_part 40 = .ok (.invokevirtual 175, 3) := by decide +kernel
theorem dX9_part_43 : decode cX9_part 43 = .ok (.aload_n 0, 1) := by decide +kernel
theorem dX9_part_44 : decode cX9_part 44 = .ok (.iload_n 3, 1) := by decide +kernel
theorem dX9_part_45 : decode cX9_part 45 = .ok (.bipush 8, 2) := by decide +kernel
theorem dX9_part_47 : decode cX9_part 47 = .ok (.invokevirtual 140, 3) := by decide +kernel
theorem dX9_part_50 : decode cX9_part 50 = .ok (.aload_n 0, 1) := by decide +kernel
theorem dX9_part_51 : decode cX9_part 51 = .ok (.getfield 32, 3) := by decide +kernel
theorem dX9_part_54 : decode cX9_part 54 = .ok (.iload_n 3, 1) := by decide +kernel
theorem dX9_part_55 : decode cX9_part 55 = .ok (.iaload, 1) := by decide +kernel
theorem dX9_part_56 : decode cX9_part 56 = .ok (.ireturn, 1) := by decide +kernel
theorem dX9_findInHeap_0 : decode cX9_findInHeap 0 = .ok (.iconst (-1), 1) := by decide +kernel
theorem dX9_findInHeap_1 : decode cX9_findInHeap 1 = .ok (.istore_n 2, 1) := by decide +kernel
theorem dX9_findInHeap_2 : decode cX9_findInHeap 2 = .ok (.iconst 0, 1) := by decide +kernel
theorem dX9_findInHeap_3 : decode cX9_findInHeap 3 = .ok (.istore_n 3, 1) := by decide +kernel
theorem dX9_findInHeap_4 : decode cX9_findInHeap 4 = .ok (.iload_n 3, 1) := by decide +kernel
theorem dX9_findInHeap_5 : decode cX9_findInHeap 5 = .ok (.aload_n 0, 1) := by decide +kernel
theorem dX9_findInHeap_6 : decode cX9_findInHeap 6 = .ok (.getfield 178, 3) := by decide +kernel
theorem dX9_findInHeap_9 : decode cX9_findInHeap 9 = .ok (.if_icmp .ge 105, 3) := by decide +kernel
theorem dX9_findInHeap_12 : decode cX9_findInHeap 12 = .ok (.iload_n 2, 1) := by decide +kernel
theorem dX9_findInHeap_13 : decode cX9_findInHeap 13 = .ok (.ifCond .ge 101, 3) := by decide +kernel
theorem dX9_findInHeap_16 : decode cX9_findInHeap 16 = .ok (.aload_n 0, 1) := by decide +kernel
theorem dX9_findInHeap_17 : decode cX9_findInHeap 17 = .ok (.getfield 51, 3) := by decide +kernel
theorem dX9_findInHeap_20 : decode cX9_findInHeap 20 = .ok (.iload_n 3, 1) := by decide +kernel
theorem dX9_findInHeap_21 : decode cX9_findInHeap 21 = .ok (.iaload, 1) := by decide +kernel
theorem dX9_findInHeap_22 : decode cX9_findInHeap 22 = .ok (.aload_n 0, 1) := by decide +kernel
theorem dX9_findInHeap_23 : decode cX9_findInHeap 23 = .ok (.getfield 32, 3) := by decide +kernel
theorem dX9_findInHeap_26 : decode cX9_findInHeap 26 = .ok (.iload_n 1, 1) := by decide +kernel
theorem dX9_findInHeap_27 : decode cX9_findInHeap 27 = .ok (.iaload, 1) := by decide +kernel
theorem dX9_findInHeap_28 : decode cX9_findInHeap 28 = .ok (.if_icmp .ne 7, 3) := by decide +kernel
theorem dX9_findInHeap_31 : decode cX9_findInHeap 31 = .ok (.iconst 1, 1) := by decide +kernel
theorem dX9_findInHeap_32 : decode cX9_findInHeap 32 = .ok (.goto 4, 3) := by decide +kernel
theorem dX9_findInHeap_35 : decode cX9_findInHeap 35 = .ok (.iconst 0, 1) := by decide +kernel
theorem dX9_findInHeap_36 : decode cX9_findInHeap 36 = .ok (.istore 4, 2) := by decide +kernel
theorem dX9_findInHeap_38 : decode cX9_findInHeap 38 = .ok (.iconst 0, 1) := by decide +kernel
theorem dX9_findInHeap_39 : decode cX9_findInHeap 39 = .ok (.istore 5, 2) := by decide +kernel
theorem dX9_findInHeap_41 : decode cX9_findInHeap 41 = .ok (.iload 5, 2) := by decide +kernel
theorem dX9_findInHeap_43 : decode cX9_findInHeap 43 = .ok (.aload_n 0, 1) := by decide +kernel
theorem dX9_findInHeap_44 : decode cX9_findInHeap 44 = .ok (.getfield 32, 3) := by decide +kernel
theorem dX9_findInHeap_47 : decode cX9_findInHeap 47 = .ok (.iload_n 1, 1) := by decide +kernel
theorem dX9_findInHeap_48 : decode cX9_findInHeap 48 = .ok (.iaload, 1) := by decide +kernel
theorem dX9_findInHeap_49 : decode cX9_findInHeap 49 = .ok (.if_icmp .ge 48, 3) := by decide +kernel
theorem dX9_findInHeap_52 : decode cX9_findInHeap 52 = .ok (.iload 4, 2) := by decide +kernel
theorem dX9_findInHeap_54 : decode cX9_findInHeap 54 = .ok (.ifCond .eq 43, 3) := by decide +kernel
theorem dX9_findInHeap_57 : decode cX9_findInHeap 57 = .ok (.aload_n 0, 1) := by decide +kernel
theorem dX9_findInHeap_58 : decode cX9_findInHeap 58 = .ok (.getfield 48, 3) := by decide +kernel
theorem dX9_findInHeap_61 : decode cX9_findInHeap 61 = .ok (.bipush 16, 2) := by decide +kernel
theorem dX9_findInHeap_63 : decode cX9_findInHeap 63 = .ok (.iload_n 3, 1) := by decide +kernel
theorem dX9_findInHeap_64 : decode cX9_findInHeap 64 = .ok (.imul, 1) := by decide +kernel
theorem dX9_findInHeap_65 : decode cX9_findInHeap 65 = .ok (.iload 5, 2) := by decide +kernel
theorem dX9_findInHeap_67 : decode cX9_findInHeap 67 = .ok (.iadd, 1) := by decide +kernel
theorem dX9_findInHeap_68 : decode cX9_findInHeap 68 = .ok (.iaload, 1) := by decide +kernel
theorem dX9_findInHeap_69 : decode cX9_findInHeap 69 = .ok (.aload_n 0, 1) := by decide +kernel
theorem dX9_findInHeap_70 : decode cX9_findInHeap 70 = .ok (.getfield 29, 3) := by decide +kernel
theorem dX9_findInHeap_73 : decode cX9_findInHeap 73 = .ok (.bipush 34, 2) := by decide +kernel
theorem dX9_findInHeap_75 : decode cX9_findInHeap 75 = .ok (.iload_n 1, 1) := by decide +kernel
theorem dX9_findInHeap_76 : decode cX9_findInHeap 76 = .ok (.imul, 1) := by decide +kernel
theorem dX9_findInHeap_77 : decode cX9_findInHeap 77 = .ok (.iload 5, 2) := by decide +kernel
theorem dX9_findInHeap_79 : decode cX9_findInHeap 79 = .ok (.iadd, 1) := by decide +kernel
theorem dX9_findInHeap_80 : decode cX9_findInHeap 80 = .ok (.iaload, 1) := by decide +kernel
theorem dX9_findInHeap_81 : decode cX9_findInHeap 81 = .ok (.if_icmp .ne 7, 3) := by decide +kernel
theorem dX9_findInHeap_84 : decode cX9_findInHeap 84 = .ok (.iconst 1, 1) := by decide +kernel
theorem dX9_findInHeap_85 : decode cX9_findInHeap 85 = .ok (.goto 4, 3) := by decide +kernel
theorem dX9_findInHeap_88 : decode cX9_findInHeap 88 = .ok (.iconst 0, 1) := by decide +kernel
theorem dX9_findInHeap_89 : decode cX9_findInHeap 89 = .ok (.istore 4, 2) := by decide +kernel
theorem dX9_findInHeap_91 : decode cX9_findInHeap 91 = .ok (.iinc 5 1, 3) := by decide +kernel
theorem dX9_findInHeap_94 : decode cX9_findInHeap 94 = .ok (.goto (-53), 3) := by decide +kernel
theorem dX9_findInHeap_97 : decode cX9_findInHeap 97 = .ok (.iload 4, 2) := by decide +kernel
theorem dX9_findInHeap_99 : decode cX9_findInHeap 99 = .ok (.ifCond .eq 7, 3) := by decide +kernel
theorem dX9_findInHeap_102 : decode cX9_findInHeap 102 = .ok (.iload_n 3, 1) := by decide +kernel
theorem dX9_findInHeap_103 : decode cX9_findInHeap 103 = .ok (.goto 4, 3) := by decide +kernel
theorem dX9_findInHeap_106 : decode cX9_findInHeap 106 = .ok (.iconst (-1), 1) := by decide +kernel
theorem dX9_findInHeap_107 : decode cX9_findInHeap 107 = .ok (.istore_n 2, 1) := by decide +kernel
theorem dX9_findInHeap_108 : decode cX9_findInHeap 108 = .ok (.iinc 3 1, 3) := by decide +kernel
theorem dX9_findInHeap_111 : decode cX9_findInHeap 111 = .ok (.goto (-107), 3) := by decide +kernel
theorem dX9_findInHeap_114 : decode cX9_findInHeap 114 = .ok (.iload_n 2, 1) := by decide +kernel
theorem dX9_findInHeap_115 : decode cX9_findInHeap 115 = .ok (.ireturn, 1) := by decide +kernel
theorem dX9_toHeap_0 : decode cX9_toHeap 0 = .ok (.aload_n 0, 1) := by decide +kernel
theorem dX9_toHeap_1 : decode cX9_toHeap 1 = .ok (.iload_n 1, 1) := by decide +kernel
theorem dX9_toHeap_2 : decode cX9_toHeap 2 = .ok (.invokevirtual 181, 3) := by decide +kernel
theorem dX9_toHeap_5 : decode cX9_toHeap 5 = .ok (.istore_n 2, 1) := by decide +kernel
theorem dX9_toHeap_6 : decode cX9_toHeap 6 = .ok (.iload_n 2, 1) := by decide +kernel
theorem dX9_toHeap_7 : decode cX9_toHeap 7 = .ok (.ifCond .ge 80, 3) := by decide +kernel
theorem dX9_toHeap_10 : decode cX9_toHeap 10 = .ok (.aload_n 0, 1) := by decide +kernel
theorem dX9_toHeap_11 : decode cX9_toHeap 11 = .ok (.getfield 178, 3) := by decide +kernel
theorem dX9_toHeap_14 : decode cX9_toHeap 14 = .ok (.sipush 200, 3) := by decide +kernel
theorem dX9_toHeap_17 : decode cX9_toHeap 17 = .ok (.if_icmp .gt 70, 3) := by decide +kernel
theorem dX9_toHeap_20 : decode cX9_toHeap 20 = .ok (.aload_n 0, 1) := by decide +kernel
theorem dX9_toHeap_21 : decode cX9_toHeap 21 = .ok (.getfield 178, 3) := by decide +kernel
theorem dX9_toHeap_24 : decode cX9_toHeap 24 = .ok (.istore_n 2, 1) := by decide +kernel
theorem dX9_toHeap_25 : decode cX9_toHeap 25 = .ok (.aload_n 0, 1) := by decide +kernel
theorem dX9_toHeap_26 : decode cX9_toHeap 26 = .ok (.getfield 51, 3) := by decide +kernel
theorem dX9_toHeap_29 : decode cX9_toHeap 29 = .ok (.iload_n 2, 1) := by decide +kernel
theorem dX9_toHeap_30 : decode cX9_toHeap 30 = .ok (.aload_n 0, 1) := by decide +kernel
theorem dX9_toHeap_31 : decode cX9_toHeap 31 = .ok (.getfield 32, 3) := by decide +kernel
theorem dX9_toHeap_34 : decode cX9_toHeap 34 = .ok (.iload_n 1, 1) := by decide +kernel
theorem dX9_toHeap_35 : decode cX9_toHeap 35 = .ok (.iaload, 1) := by decide +kernel
theorem dX9_toHeap_36 : decode cX9_toHeap 36 = .ok (.iastore, 1) := by decide +kernel
theorem dX9_toHeap_37 : decode cX9_toHeap 37 = .ok (.iconst 0, 1) := by decide +kernel
theorem dX9_toHeap_38 : decode cX9_toHeap 38 = .ok (.istore_n 3, 1) := by decide +kernel
theorem dX9_toHeap_39 : decode cX9_toHeap 39 = .ok (.iload_n 3, 1) := by decide +kernel
theorem dX9_toHeap_40 : decode cX9_toHeap 40 = .ok (.aload_n 0, 1) := by decide +kernel
theorem dX9_toHeap_41 : decode cX9_toHeap 41 = .ok (.getfield 32, 3) := by decide +kernel
theorem dX9_toHeap_44 : decode cX9_toHeap 44 = .ok (.iload_n 1, 1) := by decide +kernel
theorem dX9_toHeap_45 : decode cX9_toHeap 45 = .ok (.iaload, 1) := by decide +kernel
theorem dX9_toHeap_46 : decode cX9_toHeap 46 = .ok (.if_icmp .ge 31, 3) := by decide +kernel
theorem dX9_toHeap_49 : decode cX9_toHeap 49 = .ok (.aload_n 0, 1) := by decide +kernel
theorem dX9_toHeap_50 : decode cX9_toHeap 50 = .ok (.getfield 48, 3) := by decide +kernel
theorem dX9_toHeap_53 : decode cX9_toHeap 53 = .ok (.bipush 16, 2) := by decide +kernel
theorem dX9_toHeap_55 : decode cX9_toHeap 55 = .ok (.iload_n 2, 1) := by decide +kernel
theorem dX9_toHeap_56 : decode cX9_toHeap 56 = .ok (.imul, 1) := by decide +kernel
theorem dX9_toHeap_57 : decode cX9_toHeap 57 = .ok (.iload_n 3, 1) := by decide +kernel
theorem dX9_toHeap_58 : decode cX9_toHeap 58 = .ok (.iadd, 1) := by decide +kernel
theorem dX9_toHeap_59 : decode cX9_toHeap 59 = .ok (.aload_n 0, 1) := by decide +kernel
theorem dX9_toHeap_60 : decode cX9_toHeap 60 = .ok (.getfield 29, 3) := by decide +kernel
theorem dX9_toHeap_63 : decode cX9_toHeap 63 = .ok (.bipush 34, 2) := by decide +kernel
theorem dX9_toHeap_65 : decode cX9_toHeap 65 = .ok (.iload_n 1, 1) := by decide +kernel
theorem dX9_toHeap_66 : decode cX9_toHeap 66 = .ok (.imul, 1) := by decide +kernel
theorem dX9_toHeap_67 : decode cX9_toHeap 67 = .ok (.iload_n 3, 1) := by decide +kernel
theorem dX9_toHeap_68 : decode cX9_toHeap 68 = .ok (.iadd, 1) := by decide +kernel
theorem dX9_toHeap_69 : decode cX9_toHeap 69 = .ok (.iaload, 1) := by decide +kernel
theorem dX9_toHeap_70 : decode cX9_toHeap 70 = .ok (.iastore, 1) := by decide +kernel
theorem dX9_toHeap_71 : decode cX9_toHeap 71 = .ok (.iinc 3 1, 3) := by decide +kernel
theorem dX9_toHeap_74 : decode cX9_toHeap 74 = .ok (.goto (-35), 3) := by decide +kernel
theorem dX9_toHeap_77 : decode cX9_toHeap 77 = .ok (.aload_n 0, 1) := by decide +kernel
theorem dX9_toHeap_78 : decode cX9_toHeap 78 = .ok (.dup, 1) := by decide +kernel
theorem dX9_toHeap_79 : decode cX9_toHeap 79 = .ok (.getfield 178, 3) := by decide +kernel
theorem dX9_toHeap_82 : decode cX9_toHeap 82 = .ok (.iconst 1, 1) := by decide +kernel
theorem dX9_toHeap_83 : decode cX9_toHeap 83 = .ok (.iadd, 1) := by decide +kernel
theorem dX9_toHeap_84 : decode cX9_toHeap 84 = .ok (.putfield 178, 3) := by decide +kernel
theorem dX9_toHeap_87 : decode cX9_toHeap 87 = .ok (.iload_n 2, 1) := by decide +kernel
theorem dX9_toHeap_88 : decode cX9_toHeap 88 = .ok (.ireturn, 1) := by decide +kernel
theorem dX9_fromHeap_0 : decode cX9_fromHeap 0 = .ok (.aload_n 0, 1) := by decide +kernel
theorem dX9_fromHeap_1 : decode cX9_fromHeap 1 = .ok (.getfield 32, 3) := by decide +kernel
theorem dX9_fromHeap_4 : decode cX9_fromHeap 4 = .ok (.iload_n 2, 1) := by decide +kernel
theorem dX9_fromHeap_5 : decode cX9_fromHeap 5 = .ok (.aload_n 0, 1) := by decide +kernel
theorem dX9_fromHeap_6 : decode cX9_fromHeap 6 = .ok (.getfield 51, 3) := by decide +kernel
theorem dX9_fromHeap_9 : decode cX9_fromHeap 9 = .ok (.iload_n 1, 1) := by decide +kernel
theorem dX9_fromHeap_10 : decode cX9_fromHeap 10 = .ok (.iaload, 1) := by decide +kernel
theorem dX9_fromHeap_11 : decode cX9_fromHeap 11 = .ok (.iastore, 1) := by decide +kernel
theorem dX9_fromHeap_12 : decode cX9_fromHeap 12 = .ok (.iconst 0, 1) := by decide +kernel
theorem dX9_fromHeap_13 : decode cX9_fromHeap 13 = .ok (.istore_n 3, 1) := by decide +kernel
theorem dX9_fromHeap_14 : decode cX9_fromHeap 14 = .ok (.iload_n 3, 1) := by decide +kernel
theorem dX9_fromHeap_15 : decode cX9_fromHeap 15 = .ok (.aload_n 0, 1) := by decide +kernel
theorem dX9_fromHeap_16 : decode cX9_fromHeap 16 = .ok (.getfield 51, 3) := by decide +kernel
theorem dX9_fromHeap_19 : decode cX9_fromHeap 19 = .ok (.iload_n 1, 1) := by decide +kernel
theorem dX9_fromHeap_20 : decode cX9_fromHeap 20 = .ok (.iaload, 1) := by decide +kernel
theorem dX9_fromHeap_21 : decode cX9_fromHeap 21 = .ok (.if_icmp .ge 31, 3) := by decide +kernel
theorem dX9_fromHeap_24 : decode cX9_fromHeap 24 = .ok (.aload_n 0, 1) := by decide +kernel
theorem dX9_fromHeap_25 : decode cX9_fromHeap 25 = .ok (.getfield 29, 3) := by decide +kernel
theorem dX9_fromHeap_28 : decode cX9_fromHeap 28 = .ok (.bipush 34, 2) := by decide +kernel
theorem dX9_fromHeap_30 : decode cX9_fromHeap 30 = .ok (.iload_n 2, 1) := by decide +kernel
theorem dX9_fromHeap_31 : decode cX9_fromHeap 31 = .ok (.imul, 1) := by decide +kernel
theorem dX9_fromHeap_32 : decode cX9_fromHeap 32 = .ok (.iload_n 3, 1) := by decide +kernel
theorem dX9_fromHeap_33 : decode cX9_fromHeap 33 = .ok (.iadd, 1) := by decide +kernel
theorem dX9_fromHeap_34 : decode cX9_fromHeap 34 = .ok (.aload_n 0, 1) := by decide +kernel
theorem dX9_fromHeap_35 : decode cX9_fromHeap 35 = .ok (.getfield 48, 3) := by decide +kernel
theorem dX9_fromHeap_38 : decode cX9_fromHeap 38 = .ok (.bipush 16, 2) := by decide +kernel
theorem dX9_fromHeap_40 : decode cX9_fromHeap 40 = .ok (.iload_n 1, 1) := by decide +kernel
theorem dX9_fromHeap_41 : decode cX9_fromHeap 41 = .ok (.imul, 1) := by decide +kernel
theorem dX9_fromHeap_42 : decode cX9_fromHeap 42 = .ok (.iload_n 3, 1) := by decide +kernel
theorem dX9_fromHeap_43 : decode cX9_fromHeap 43 = .ok (.iadd, 1) := by decide +kernel
theorem dX9_fromHeap_44 : decode cX9_fromHeap 44 = .ok (.iaload, 1) := by decide +kernel
theorem dX9_fromHeap_45 : decode cX9_fromHeap 45 = .ok (.iastore, 1) := by decide +kernel
theorem dX9_fromHeap_46 : decode cX9_fromHeap 46 = .ok (.iinc 3 1, 3) := by decide +kernel
theorem dX9_fromHeap_49 : decode cX9_fromHeap 49 = .ok (.goto (-35), 3) := by decide +kernel
theorem dX9_fromHeap_52 : decode cX9_fromHeap 52 = .ok (.return_, 1) := by decide +kernel
theorem dX9_grow_0 : decode cX9_grow 0 = .ok (.aload_n 0, 1) := by decide +kernel
theorem dX9_grow_1 : decode cX9_grow 1 = .ok (.getfield 185, 3) := by decide +kernel
theorem dX9_grow_4 : decode cX9_grow 4 = .ok (.aload_n 0, 1) := by decide +kernel
theorem dX9_grow_5 : decode cX9_grow 5 = .ok (.getfield 178, 3) := by decide +kernel
theorem dX9_grow_8 : decode cX9_grow 8 = .ok (.if_icmp .ge 93, 3) := by decide +kernel
theorem dX9_grow_11 : decode cX9_grow 11 = .ok (.aload_n 0, 1) := by decide +kernel
theorem dX9_grow_12 : decode cX9_grow 12 = .ok (.getfield 178, 3) := by decide +kernel
theorem dX9_grow_15 : decode cX9_grow 15 = .ok (.sipush 200, 3) := by decide +kernel
theorem dX9_grow_18 : decode cX9_grow 18 = .ok (.if_icmp .gt 83, 3) := by decide +kernel
theorem dX9_grow_21 : decode cX9_grow 21 = .ok (.aload_n 0, 1) := by decide +kernel
theorem dX9_grow_22 : decode cX9_grow 22 = .ok (.aload_n 0, 1) := by decide +kernel
theorem dX9_grow_23 : decode cX9_grow 23 = .ok (.getfield 185, 3) := by decide +kernel
theorem dX9_grow_26 : decode cX9_grow 26 = .ok (.bipush 9, 2) := by decide +kernel
theorem dX9_grow_28 : decode cX9_grow 28 = .ok (.invokevirtual 188, 3) := by decide +kernel
theorem dX9_grow_31 : decode cX9_grow 31 = .ok (.iconst 0, 1) := by decide +kernel
theorem dX9_grow_32 : decode cX9_grow 32 = .ok (.istore_n 1, 1) := by decide +kernel
theorem dX9_grow_33 : decode cX9_grow 33 = .ok (.iload_n 1, 1) := by decide +kernel
theorem dX9_grow_34 : decode cX9_grow 34 = .ok (.aload_n 0, 1) := by decide +kernel
theorem dX9_grow_35 : decode cX9_grow 35 = .ok (.getfield 19, 3) := by decide +kernel
theorem dX9_grow_38 : decode cX9_grow 38 = .ok (.if_icmp .ge 50, 3) := by decide +kernel
theorem dX9_grow_41 : decode cX9_grow 41 = .ok (.aload_n 0, 1) := by decide +kernel
theorem dX9_grow_42 : decode cX9_grow 42 = .ok (.getfield 54, 3) := by decide +kernel
theorem dX9_grow_45 : decode cX9_grow 45 = .ok (.iconst 4, 1) := by decide +kernel
theorem dX9_grow_46 : decode cX9_grow 46 = .ok (.aload_n 0, 1) := by decide +kernel
theorem dX9_grow_47 : decode cX9_grow 47 = .ok (.getfield 185, 3) := by decide +kernel
theorem dX9_grow_50 : decode cX9_grow 50 = .ok (.imul, 1) := by decide +kernel
theorem dX9_grow_51 : decode cX9_grow 51 = .ok (.iload_n 1, 1) := by decide +kernel
theorem dX9_grow_52 : decode cX9_grow 52 = .ok (.iadd, 1) := by decide +kernel
theorem dX9_grow_53 : decode cX9_grow 53 = .ok (.aload_n 0, 1) := by decide +kernel
theorem dX9_grow_54 : decode cX9_grow 54 = .ok (.bipush 9, 2) := by decide +kernel
theorem dX9_grow_56 : decode cX9_grow 56 = .ok (.iload_n 1, 1) := by decide +kernel
theorem dX9_grow_57 : decode cX9_grow 57 = .ok (.bipush 10, 2) := by decide +kernel
theorem dX9_grow_59 : decode cX9_grow 59 = .ok (.invokevirtual 171, 3) := by decide +kernel
theorem dX9_grow_62 : decode cX9_grow 62 = .ok (.iastore, 1) := by decide +kernel
theorem dX9_grow_63 : decode cX9_grow 63 = .ok (.aload_n 0, 1) := by decide +kernel
theorem dX9_grow_64 : decode cX9_grow 64 = .ok (.getfield 57, 3) := by decide +kernel
theorem dX9_grow_67 : decode cX9_grow 67 = .ok (.iconst 4, 1) := by decide +kernel
theorem dX9_grow_68 : decode cX9_grow 68 = .ok (.aload_n 0, 1) := by decide +kernel
theorem dX9_grow_69 : decode cX9_grow 69 = .ok (.getfield 185, 3) := by decide +kernel
theorem dX9_grow_72 : decode cX9_grow 72 = .ok (.imul, 1) := by decide +kernel
theorem dX9_grow_73 : decode cX9_grow 73 = .ok (.iload_n 1, 1) := by decide +kernel
theorem dX9_grow_74 : decode cX9_grow 74 = .ok (.iadd, 1) := by decide +kernel
theorem dX9_grow_75 : decode cX9_grow 75 = .ok (.aload_n 0, 1) := by decide +kernel
theorem dX9_grow_76 : decode cX9_grow 76 = .ok (.bipush 10, 2) := by decide +kernel
theorem dX9_grow_78 : decode cX9_grow 78 = .ok (.invokevirtual 191, 3) := by decide +kernel
theorem dX9_grow_81 : decode cX9_grow 81 = .ok (.iastore, 1) := by decide +kernel
theorem dX9_grow_82 : decode cX9_grow 82 = .ok (.iinc 1 1, 3) := by decide +kernel
theorem dX9_grow_85 : decode cX9_grow 85 = .ok (.goto (-52), 3) := by decide +kernel
theorem dX9_grow_88 : decode cX9_grow 88 = .ok (.aload_n 0, 1) := by decide +kernel
theorem dX9_grow_89 : decode cX9_grow 89 = .ok (.dup, 1) := by decide +kernel
theorem dX9_grow_90 : decode cX9_grow 90 = .ok (.getfield 185, 3) := by decide +kernel
theorem dX9_grow_93 : decode cX9_grow 93 = .ok (.iconst 1, 1) := by decide +kernel
theorem dX9_grow_94 : decode cX9_grow 94 = .ok (.iadd, 1) := by decide +kernel
theorem dX9_grow_95 : decode cX9_grow 95 = .ok (.putfield 185, 3) := by decide +kernel
theorem dX9_grow_98 : decode cX9_grow 98 = .ok (.goto (-98), 3) := by decide +kernel
theorem dX9_grow_101 : decode cX9_grow 101 = .ok (.aload_n 0, 1) := by decide +kernel
theorem dX9_grow_102 : decode cX9_grow 102 = .ok (.getfield 178, 3) := by decide +kernel
theorem dX9_grow_105 : decode cX9_grow 105 = .ok (.sipush 200, 3) := by decide +kernel
theorem dX9_grow_108 : decode cX9_grow 108 = .ok (.if_icmp .gt 7, 3) := by decide +kernel
theorem dX9_grow_111 : decode cX9_grow 111 = .ok (.iconst 1, 1) := by decide +kernel
theorem dX9_grow_112 : decode cX9_grow 112 = .ok (.goto 4, 3) := by decide +kernel
theorem dX9_grow_115 : decode cX9_grow 115 = .ok (.iconst 0, 1) := by decide +kernel
theorem dX9_grow_116 : decode cX9_grow 116 = .ok (.ireturn, 1) := by decide +kernel
theorem dX9_beginHeap_0 : decode cX9_beginHeap 0 = .ok (.aload_n 0, 1) := by decide +kernel
theorem dX9_beginHeap_1 : decode cX9_beginHeap 1 = .ok (.iconst 0, 1) := by decide +kernel
theorem dX9_beginHeap_2 : decode cX9_beginHeap 2 = .ok (.putfield 178, 3) := by decide +kernel
theorem dX9_beginHeap_5 : decode cX9_beginHeap 5 = .ok (.aload_n 0, 1) := by decide +kernel
theorem dX9_beginHeap_6 : decode cX9_beginHeap 6 = .ok (.iconst 0, 1) := by decide +kernel
theorem dX9_beginHeap_7 : decode cX9_beginHeap 7 = .ok (.putfield 185, 3) := by decide +kernel
theorem dX9_beginHeap_10 : decode cX9_beginHeap 10 = .ok (.return_, 1) := by decide +kernel
theorem dX9_isSameNow_0 : decode cX9_isSameNow 0 = .ok (.iconst 1, 1) := by decide +kernel
theorem dX9_isSameNow_1 : decode cX9_isSameNow 1 = .ok (.istore_n 3, 1) := by decide +kernel
theorem dX9_isSameNow_2 : decode cX9_isSameNow 2 = .ok (.iconst 0, 1) := by decide +kernel
theorem dX9_isSameNow_3 : decode cX9_isSameNow 3 = .ok (.istore 4, 2) := by decide +kernel
theorem dX9_isSameNow_5 : decode cX9_isSameNow 5 = .ok (.iload 4, 2) := by decide +kernel
theorem dX9_isSameNow_7 : decode cX9_isSameNow 7 = .ok (.aload_n 0, 1) := by decide +kernel
theorem dX9_isSameNow_8 : decode cX9_isSameNow 8 = .ok (.getfield 19, 3) := by decide +kernel
theorem dX9_isSameNow_11 : decode cX9_isSameNow 11 = .ok (.if_icmp .ge 79, 3) := by decide +kernel
theorem dX9_isSameNow_14 : decode cX9_isSameNow 14 = .ok (.iload_n 3, 1) := by decide +kernel
theorem dX9_isSameNow_15 : decode cX9_isSameNow 15 = .ok (.ifCond .eq 67, 3) := by decide +kernel
theorem dX9_isSameNow_18 : decode cX9_isSameNow 18 = .ok (.aload_n 0, 1) := by decide +kernel
theorem dX9_isSameNow_19 : decode cX9_isSameNow 19 = .ok (.getfield 54, 3) := by decide +kernel
theorem dX9_isSameNow_22 : decode cX9_isSameNow 22 = .ok (.iconst 4, 1) := by decide +kernel
theorem dX9_isSameNow_23 : decode cX9_isSameNow 23 = .ok (.iload_n 1, 1) := by decide +kernel
theorem dX9_isSameNow_24 : decode cX9_isSameNow 24 = .ok (.imul, 1) := by decide +kernel
theorem dX9_isSameNow_25 : decode cX9_isSameNow 25 = .ok (.iload 4, 2) := by decide +kernel
theorem dX9_isSameNow_27 : decode cX9_isSameNow 27 = .ok (.iadd, 1) := by decide +kernel
theorem dX9_isSameNow_28 : decode cX9_isSameNow 28 = .ok (.iaload, 1) := by decide +kernel
theorem dX9_isSameNow_29 : decode cX9_isSameNow 29 = .ok (.aload_n 0, 1) := by decide +kernel
theorem dX9_isSameNow_30 : decode cX9_isSameNow 30 = .ok (.getfield 54, 3) := by decide +kernel
theorem dX9_isSameNow_33 : decode cX9_isSameNow 33 = .ok (.iconst 4, 1) := by decide +kernel
theorem dX9_isSameNow_34 : decode cX9_isSameNow 34 = .ok (.iload_n 2, 1) := by decide +kernel
theorem dX9_isSameNow_35 : decode cX9_isSameNow 35 = .ok (.imul, 1) := by decide +kernel
theorem dX9_isSameNow_36 : decode cX9_isSameNow 36 = .ok (.iload 4, 2) := by decide +kernel
theorem dX9_isSameNow_38 : decode cX9_isSameNow 38 = .ok (.iadd, 1) := by decide +kernel
theorem dX9_isSameNow_39 : decode cX9_isSameNow 39 = .ok (.iaload, 1) := by decide +kernel
theorem dX9_isSameNow_40 : decode cX9_isSameNow 40 = .ok (.if_icmp .ne 42, 3) := by decide +kernel
theorem dX9_isSameNow_43 : decode cX9_isSameNow 43 = .ok (.aload_n 0, 1) := by decide +kernel
theorem dX9_isSameNow_44 : decode cX9_isSameNow 44 = .ok (.getfield 60, 3) := by decide +kernel
theorem dX9_isSameNow_47 : decode cX9_isSameNow 47 = .ok (.aload_n 0, 1) := by decide +kernel
theorem dX9_isSameNow_48 : decode cX9_isSameNow 48 = .ok (.getfield 57, 3) := by decide +kernel
theorem dX9_isSameNow_51 : decode cX9_isSameNow 51 = .ok (.iconst 4, 1) := by decide +kernel
theorem dX9_isSameNow_52 : decode cX9_isSameNow 52 = .ok (.iload_n 1, 1) := by decide +kernel
theorem dX9_isSameNow_53 : decode cX9_isSameNow 53 = .ok (.imul, 1) := by decide +kernel
theorem dX9_isSameNow_54 : decode cX9_isSameNow 54 = .ok (.iload 4, 2) := by decide +kernel
theorem dX9_isSameNow_56 : decode cX9_isSameNow 56 = .ok (.iadd, 1) := by decide +kernel
theorem dX9_isSameNow_57 : decode cX9_isSameNow 57 = .ok (.iaload, 1) := by decide +kernel
theorem dX9_isSameNow_58 : decode cX9_isSameNow 58 = .ok (.iaload, 1) := by decide +kernel
theorem dX9_isSameNow_59 : decode cX9_isSameNow 59 = .ok (.aload_n 0, 1) := by decide +kernel
theorem dX9_isSameNow_60 : decode cX9_isSameNow 60 = .ok (.getfield 60, 3) := by decide +kernel
theorem dX9_isSameNow_63 : decode cX9_isSameNow 63 = .ok (.aload_n 0, 1) := by decide +kernel
theorem dX9_isSameNow_64 : decode cX9_isSameNow 64 = .ok (.getfield 57, 3) := by decide +kernel
theorem dX9_isSameNow_67 : decode cX9_isSameNow 67 = .ok (.iconst 4, 1) := by decide +kernel
theorem dX9_isSameNow_68 : decode cX9_isSameNow 68 = .ok (.iload_n 2, 1) := by decide +kernel
theorem dX9_isSameNow_69 : decode cX9_isSameNow 69 = .ok (.imul, 1) := by decide +kernel
theorem dX9_isSameNow_70 : decode cX9_isSameNow 70 = .ok (.iload 4, 2) := by decide +kernel
theorem dX9_isSameNow_72 : decode cX9_isSameNow 72 = .ok (.iadd, 1) := by decide +kernel
theorem dX9_isSameNow_73 : decode cX9_isSameNow 73 = .ok (.iaload, 1) := by decide +kernel
theorem dX9_isSameNow_74 : decode cX9_isSameNow 74 = .ok (.iaload, 1) := by decide +kernel
theorem dX9_isSameNow_75 : decode cX9_isSameNow 75 = .ok (.if_icmp .ne 7, 3) := by decide +kernel
theorem dX9_isSameNow_78 : decode cX9_isSameNow 78 = .ok (.iconst 1, 1) := by decide +kernel
theorem dX9_isSameNow_79 : decode cX9_isSameNow 79 = .ok (.goto 4, 3) := by decide +kernel
theorem dX9_isSameNow_82 : decode cX9_isSameNow 82 = .ok (.iconst 0, 1) := by decide +kernel
theorem dX9_isSameNow_83 : decode cX9_isSameNow 83 = .ok (.istore_n 3, 1) := by decide +kernel
theorem dX9_isSameNow_84 : decode cX9_isSameNow 84 = .ok (.iinc 4 1, 3) := by decide +kernel
theorem dX9_isSameNow_87 : decode cX9_isSameNow 87 = .ok (.goto (-82), 3) := by decide +kernel
theorem dX9_isSameNow_90 : decode cX9_isSameNow 90 = .ok (.iload_n 3, 1) := by decide +kernel
theorem dX9_isSameNow_91 : decode cX9_isSameNow 91 = .ok (.ireturn, 1) := by decide +kernel
theorem dX9_partOnce_0 : decode cX9_partOnce 0 = .ok (.iconst 0, 1) := by decide +kernel
theorem dX9_partOnce_1 : decode cX9_partOnce 1 = .ok (.istore_n 1, 1) := by decide +kernel
theorem dX9_partOnce_2 : decode cX9_partOnce 2 = .ok (.iconst 0, 1) := by decide +kernel
theorem dX9_partOnce_3 : decode cX9_partOnce 3 = .ok (.istore_n 2, 1) := by decide +kernel
theorem dX9_partOnce_4 : decode cX9_partOnce 4 = .ok (.iload_n 2, 1) := by decide +kernel
theorem dX9_partOnce_5 : decode cX9_partOnce 5 = .ok (.aload_n 0, 1) := by decide +kernel
theorem dX9_partOnce_6 : decode cX9_partOnce 6 = .ok (.getfield 178, 3) := by decide +kernel
theorem dX9_partOnce_9 : decode cX9_partOnce 9 = .ok (.if_icmp .ge 82, 3) := by decide +kernel
theorem dX9_partOnce_12 : decode cX9_partOnce 12 = .ok (.aload_n 0, 1) := by decide +kernel
theorem dX9_partOnce_13 : decode cX9_partOnce 13 = .ok (.getfield 63, 3) := by decide +kernel
theorem dX9_partOnce_16 : decode cX9_partOnce 16 = .ok (.iload_n 2, 1) := by decide +kernel
theorem dX9_partOnce_17 : decode cX9_partOnce 17 = .ok (.iconst (-1), 1) := by decide +kernel
theorem dX9_partOnce_18 : decode cX9_partOnce 18 = .ok (.iastore, 1) := by decide +kernel
theorem dX9_partOnce_19 : decode cX9_partOnce 19 = .ok (.iconst 0, 1) := by decide +kernel
theorem dX9_partOnce_20 : decode cX9_partOnce 20 = .ok (.istore_n 3, 1) := by decide +kernel
theorem dX9_partOnce_21 : decode cX9_partOnce 21 = .ok (.iload_n 3, 1) := by decide +kernel
theorem dX9_partOnce_22 : decode cX9_partOnce 22 = .ok (.iload_n 2, 1) := by decide +kernel
theorem dX9_partOnce_23 : decode cX9_partOnce 23 = .ok (.if_icmp .ge 43, 3) := by decide +kernel
theorem dX9_partOnce_26 : decode cX9_partOnce 26 = .ok (.aload_n 0, 1) := by decide +kernel
theorem dX9_partOnce_27 : decode cX9_partOnce 27 = .ok (.getfield 63, 3) := by decide +kernel
theorem dX9_partOnce_30 : decode cX9_partOnce 30 = .ok (.iload_n 2, 1) := by decide +kernel
theorem dX9_partOnce_31 : decode cX9_partOnce 31 = .ok (.iaload, 1) := by decide +kernel
theorem dX9_partOnce_32 : decode cX9_partOnce 32 = .ok (.ifCond .ge 34, 3) := by decide +kernel
theorem dX9_partOnce_35 : decode cX9_partOnce 35 = .ok (.aload_n 0, 1) := by decide +kernel
theorem dX9_partOnce_36 : decode cX9_partOnce 36 = .ok (.getfield 63, 3) := by decide +kernel
theorem dX9_partOnce_39 : decode cX9_partOnce 39 = .ok (.iload_n 2, 1) := by decide +kernel
theorem dX9_partOnce_40 : decode cX9_partOnce 40 = .ok (.aload_n 0, 1) := by decide +kernel
theorem dX9_partOnce_41 : decode cX9_partOnce 41 = .ok (.iload_n 3, 1) := by decide +kernel
theorem dX9_partOnce_42 : decode cX9_partOnce 42 = .ok (.iload_n 2, 1) := by decide +kernel
theorem dX9_partOnce_43 : decode cX9_partOnce 43 = .ok (.invokevirtual 194, 3) := by decide +kernel
theorem dX9_partOnce_46 : decode cX9_partOnce 46 = .ok (.ifCond .eq 12, 3) := by decide +kernel
theorem dX9_partOnce_49 : decode cX9_partOnce 49 = .ok (.aload_n 0, 1) := by decide +kernel
theorem dX9_partOnce_50 : decode cX9_partOnce 50 = .ok (.getfield 63, 3) := by decide +kernel
theorem dX9_partOnce_53 : decode cX9_partOnce 53 = .ok (.iload_n 3, 1) := by decide +kernel
theorem dX9_partOnce_54 : decode cX9_partOnce 54 = .ok (.iaload, 1) := by decide +kernel
theorem dX9_partOnce_55 : decode cX9_partOnce 55 = .ok (.goto 4, 3) := by decide +kernel
theorem dX9_partOnce_58 : decode cX9_partOnce 58 = .ok (.iconst (-1), 1) := by decide +kernel
theorem dX9_partOnce_59 : decode cX9_partOnce 59 = .ok (.iastore, 1) := by decide +kernel
theorem dX9_partOnce_60 : decode cX9_partOnce 60 = .ok (.iinc 3 1, 3) := by decide +kernel
theorem dX9_partOnce_63 : decode cX9_partOnce 63 = .ok (.goto (-42), 3) := by decide +kernel
theorem dX9_partOnce_66 : decode cX9_partOnce 66 = .ok (.aload_n 0, 1) := by decide +kernel
theorem dX9_partOnce_67 : decode cX9_partOnce 67 = .ok (.getfield 63, 3) := by decide +kernel
theorem dX9_partOnce_70 : decode cX9_partOnce 70 = .ok (.iload_n 2, 1) := by decide +kernel
theorem dX9_partOnce_71 : decode cX9_partOnce 71 = .ok (.iaload, 1) := by decide +kernel
theorem dX9_partOnce_72 : decode cX9_partOnce 72 = .ok (.ifCond .ge 13, 3) := by decide +kernel
theorem dX9_partOnce_75 : decode cX9_partOnce 75 = .ok (.aload_n 0, 1) := by decide +kernel
theorem dX9_partOnce_76 : decode cX9_partOnce 76 = .ok (.getfield 63, 3) := by decide +kernel
theorem dX9_partOnce_79 : decode cX9_partOnce 79 = .ok (.iload_n 2, 1) := by decide +kernel
theorem dX9_partOnce_80 : decode cX9_partOnce 80 = .ok (.iload_n 1, 1) := by decide +kernel
theorem dX9_partOnce_81 : decode cX9_partOnce 81 = .ok (.iastore, 1) := by decide +kernel
theorem dX9_partOnce_82 : decode cX9_partOnce 82 = .ok (.iinc 1 1, 3) := by decide +kernel
theorem dX9_partOnce_85 : decode cX9_partOnce 85 = .ok (.iinc 2 1, 3) := by decide +kernel
theorem dX9_partOnce_88 : decode cX9_partOnce 88 = .ok (.goto (-84), 3) := by decide +kernel
theorem dX9_partOnce_91 : decode cX9_partOnce 91 = .ok (.iconst 0, 1) := by decide +kernel
theorem dX9_partOnce_92 : decode cX9_partOnce 92 = .ok (.istore_n 2, 1) := by decide +kernel
theorem dX9_partOnce_93 : decode cX9_partOnce 93 = .ok (.iload_n 2, 1) := by decide +kernel
theorem dX9_partOnce_94 : decode cX9_partOnce 94 = .ok (.aload_n 0, 1) := by decide +kernel
theorem dX9_partOnce_95 : decode cX9_partOnce 95 = .ok (.getfield 178, 3) := by decide +kernel
theorem dX9_partOnce_98 : decode cX9_partOnce 98 = .ok (.if_icmp .ge 21, 3) := by decide +kernel
theorem dX9_partOnce_101 : decode cX9_partOnce 101 = .ok (.aload_n 0, 1) := by decide +kernel
theorem dX9_partOnce_102 : decode cX9_partOnce 102 = .ok (.getfield 60, 3) := by decide +kernel
theorem dX9_partOnce_105 : decode cX9_partOnce 105 = .ok (.iload_n 2, 1) := by decide +kernel
theorem dX9_partOnce_106 : decode cX9_partOnce 106 = .ok (.aload_n 0, 1) := by decide +kernel
theorem dX9_partOnce_107 : decode cX9_partOnce 107 = .ok (.getfield 63, 3) := by decide +kernel
theorem dX9_partOnce_110 : decode cX9_partOnce 110 = .ok (.iload_n 2, 1) := by decide +kernel
theorem dX9_partOnce_111 : decode cX9_partOnce 111 = .ok (.iaload, 1) := by decide +kernel
theorem dX9_partOnce_112 : decode cX9_partOnce 112 = .ok (.iastore, 1) := by decide +kernel
theorem dX9_partOnce_113 : decode cX9_partOnce 113 = .ok (.iinc 2 1, 3) := by decide +kernel
theorem dX9_partOnce_116 : decode cX9_partOnce 116 = .ok (.goto (-23), 3) := by decide +kernel
theorem dX9_partOnce_119 : decode cX9_partOnce 119 = .ok (.iload_n 1, 1) := by decide +kernel
theorem dX9_partOnce_120 : decode cX9_partOnce 120 = .ok (.ireturn, 1) := by decide +kernel
theorem dX9_partAll_0 : decode cX9_partAll 0 = .ok (.iconst 0, 1) := by decide +kernel
theorem dX9_partAll_1 : decode cX9_partAll 1 = .ok (.istore_n 1, 1) := by decide +kernel
theorem dX9_partAll_2 : decode cX9_partAll 2 = .ok (.iload_n 1, 1) := by decide +kernel
theorem dX9_partAll_3 : decode cX9_partAll 3 = .ok (.aload_n 0, 1) := by decide +kernel
theorem dX9_partAll_4 : decode cX9_partAll 4 = .ok (.getfield 178, 3) := by decide +kernel
theorem dX9_partAll_7 : decode cX9_partAll 7 = .ok (.if_icmp .ge 23, 3) := by decide +kernel
theorem dX9_partAll_10 : decode cX9_partAll 10 = .ok (.aload_n 0, 1) := by decide +kernel
theorem dX9_partAll_11 : decode cX9_partAll 11 = .ok (.getfield 60, 3) := by decide +kernel
theorem dX9_partAll_14 : decode cX9_partAll 14 = .ok (.iload_n 1, 1) := by decide +kernel
theorem dX9_partAll_15 : decode cX9_partAll 15 = .ok (.iconst 0, 1) := by decide +kernel
theorem dX9_partAll_16 : decode cX9_partAll 16 = .ok (.iastore, 1) := by decide +kernel
theorem dX9_partAll_17 : decode cX9_partAll 17 = .ok (.aload_n 0, 1) := by decide +kernel
theorem dX9_partAll_18 : decode cX9_partAll 18 = .ok (.getfield 66, 3) := by decide +kernel
theorem dX9_partAll_21 : decode cX9_partAll 21 = .ok (.iload_n 1, 1) := by decide +kernel
theorem dX9_partAll_22 : decode cX9_partAll 22 = .ok (.iconst 0, 1) := by decide +kernel
theorem dX9_partAll_23 : decode cX9_partAll 23 = .ok (.iastore, 1) := by decide +kernel
theorem dX9_partAll_24 : decode cX9_partAll 24 = .ok (.iinc 1 1, 3) := by decide +kernel
theorem dX9_partAll_27 : decode cX9_partAll 27 = .ok (.goto (-25), 3) := by decide +kernel
theorem dX9_partAll_30 : decode cX9_partAll 30 = .ok (.aload_n 0, 1) := by decide +kernel
theorem dX9_partAll_31 : decode cX9_partAll 31 = .ok (.getfield 178, 3) := by decide +kernel
theorem dX9_partAll_34 : decode cX9_partAll 34 = .ok (.ifCond .ne 7, 3) := by decide +kernel
theorem dX9_partAll_37 : decode cX9_partAll 37 = .ok (.iconst 0, 1) := by decide +kernel
theorem dX9_partAll_38 : decode cX9_partAll 38 = .ok (.goto 4, 3) := by decide +kernel
theorem dX9_partAll_41 : decode cX9_partAll 41 = .ok (.iconst 1, 1) := by decide +kernel
theorem dX9_partAll_42 : decode cX9_partAll 42 = .ok (.istore_n 1, 1) := by decide +kernel
theorem dX9_partAll_43 : decode cX9_partAll 43 = .ok (.iconst 1, 1) := by decide +kernel
theorem dX9_partAll_44 : decode cX9_partAll 44 = .ok (.istore_n 2, 1) := by decide +kernel
theorem dX9_partAll_45 : decode cX9_partAll 45 = .ok (.iconst 1, 1) := by decide +kernel
theorem dX9_partAll_46 : decode cX9_partAll 46 = .ok (.istore_n 3, 1) := by decide +kernel
theorem dX9_partAll_47 : decode cX9_partAll 47 = .ok (.iload_n 2, 1) := by decide +kernel
theorem dX9_partAll_48 : decode cX9_partAll 48 = .ok (.ifCond .eq 80, 3) := by decide +kernel
theorem dX9_partAll_51 : decode cX9_partAll 51 = .ok (.aload_n 0, 1) := by decide +kernel
theorem dX9_partAll_52 : decode cX9_partAll 52 = .ok (.invokevirtual 197, 3) := by decide +kernel
theorem dX9_partAll_55 : decode cX9_partAll 55 = .ok (.istore 4, 2) := by decide +kernel
theorem dX9_partAll_57 : decode cX9_partAll 57 = .ok (.iload 4, 2) := by decide +kernel
theorem dX9_partAll_59 : decode cX9_partAll 59 = .ok (.iload_n 1, 1) := by decide +kernel
theorem dX9_partAll_60 : decode cX9_partAll 60 = .ok (.if_icmp .gt 9, 3) := by decide +kernel
theorem dX9_partAll_63 : decode cX9_partAll 63 = .ok (.iload_n 3, 1) := by decide +kernel
theorem dX9_partAll_64 : decode cX9_partAll 64 = .ok (.bipush 14, 2) := by decide +kernel
theorem dX9_partAll_66 : decode cX9_partAll 66 = .ok (.if_icmp .gt 7, 3) := by decide +kernel
theorem dX9_partAll_69 : decode cX9_partAll 69 = .ok (.iconst 1, 1) := by decide +kernel
theorem dX9_partAll_70 : decode cX9_partAll 70 = .ok (.goto 4, 3) := by decide +kernel
theorem dX9_partAll_73 : decode cX9_partAll 73 = .ok (.iconst 0, 1) := by decide +kernel
theorem dX9_partAll_74 : decode cX9_partAll 74 = .ok (.istore_n 2, 1) := by decide +kernel
theorem dX9_partAll_75 : decode cX9_partAll 75 = .ok (.iload 4, 2) := by decide +kernel
theorem dX9_partAll_77 : decode cX9_partAll 77 = .ok (.istore_n 1, 1) := by decide +kernel
theorem dX9_partAll_78 : decode cX9_partAll 78 = .ok (.iconst 0, 1) := by decide +kernel
theorem dX9_partAll_79 : decode cX9_partAll 79 = .ok (.istore 5, 2) := by decide +kernel
theorem dX9_partAll_81 : decode cX9_partAll 81 = .ok (.iload 5, 2) := by decide +kernel
theorem dX9_partAll_83 : decode cX9_partAll 83 = .ok (.aload_n 0, 1) := by decide +kernel
theorem dX9_partAll_84 : decode cX9_partAll 84 = .ok (.getfield 178, 3) := by decide +kernel
theorem dX9_partAll_87 : decode cX9_partAll 87 = .ok (.if_icmp .ge 35, 3) := by decide +kernel
theorem dX9_partAll_90 : decode cX9_partAll 90 = .ok (.iload_n 3, 1) := by decide +kernel
theorem dX9_partAll_91 : decode cX9_partAll 91 = .ok (.bipush 14, 2) := by decide +kernel
theorem dX9_partAll_93 : decode cX9_partAll 93 = .ok (.if_icmp .gt 29, 3) := by decide +kernel
theorem dX9_partAll_96 : decode cX9_partAll 96 = .ok (.aload_n 0, 1) := by decide +kernel
theorem dX9_partAll_97 : decode cX9_partAll 97 = .ok (.getfield 66, 3) := by decide +kernel
theorem dX9_partAll_100 : decode cX9_partAll 100 = .ok (.sipush 201, 3) := by decide +kernel
theorem dX9_partAll_103 : decode cX9_partAll 103 = .ok (.iload_n 3, 1) := by decide +kernel
theorem dX9_partAll_104 : decode cX9_partAll 104 = .ok (.imul, 1) := by decide +kernel
theorem dX9_partAll_105 : decode cX9_partAll 105 = .ok (.iload 5, 2) := by decide +kernel
theorem dX9_partAll_107 : decode cX9_partAll 107 = .ok (.iadd, 1) := by decide +kernel
theorem dX9_partAll_108 : decode cX9_partAll 108 = .ok (.aload_n 0, 1) := by decide +kernel
theorem dX9_partAll_109 : decode cX9_partAll 109 = .ok (.getfield 60, 3) := by decide +kernel
theorem dX9_partAll_112 : decode cX9_partAll 112 = .ok (.iload 5, 2) := by decide +kernel
theorem dX9_partAll_114 : decode cX9_partAll 114 = .ok (.iaload, 1) := by decide +kernel
theorem dX9_partAll_115 : decode cX9_partAll 115 = .ok (.iastore, 1) := by decide +kernel
theorem dX9_partAll_116 : decode cX9_partAll 116 = .ok (.iinc 5 1, 3) := by decide +kernel
theorem dX9_partAll_119 : decode cX9_partAll 119 = .ok (.goto (-38), 3) := by decide +kernel
theorem dX9_partAll_122 : decode cX9_partAll 122 = .ok (.iinc 3 1, 3) := by decide +kernel
theorem dX9_partAll_125 : decode cX9_partAll 125 = .ok (.goto (-78), 3) := by decide +kernel
theorem dX9_partAll_128 : decode cX9_partAll 128 = .ok (.iload_n 1, 1) := by decide +kernel
theorem dX9_partAll_129 : decode cX9_partAll 129 = .ok (.ireturn, 1) := by decide +kernel
theorem dX9_takeTwo_0 : decode cX9_takeTwo 0 = .ok (.iload_n 1, 1) := by decide +kernel
theorem dX9_takeTwo_1 : decode cX9_takeTwo 1 = .ok (.invokestatic 137, 3) := by decide +kernel
theorem dX9_takeTwo_4 : decode cX9_takeTwo 4 = .ok (.ifCond .eq 10, 3) := by decide +kernel
theorem dX9_takeTwo_7 : decode cX9_takeTwo 7 = .ok (.iload_n 2, 1) := by decide +kernel
theorem dX9_takeTwo_8 : decode cX9_takeTwo 8 = .ok (.invokestatic 137, 3) := by decide +kernel
theorem dX9_takeTwo_11 : decode cX9_takeTwo 11 = .ok (.ifCond .ne 5, 3) := by decide +kernel
theorem dX9_takeTwo_14 : decode cX9_takeTwo 14 = .ok (.iconst (-1), 1) := by decide +kernel
theorem dX9_takeTwo_15 : decode cX9_takeTwo 15 = .ok (.ireturn, 1) := by decide +kernel
theorem dX9_takeTwo_16 : decode cX9_takeTwo 16 = .ok (.aload_n 0, 1) := by decide +kernel
theorem dX9_takeTwo_17 : decode cX9_takeTwo 17 = .ok (.invokevirtual 133, 3) := by decide +kernel
theorem dX9_takeTwo_20 : decode cX9_takeTwo 20 = .ok (.ifCond .ne 6, 3) := by decide +kernel
theorem dX9_takeTwo_23 : decode cX9_takeTwo 23 = .ok (.bipush (-5), 2) := by decide +kernel
theorem dX9_takeTwo_25 : decode cX9_takeTwo 25 = .ok (.ireturn, 1) := by decide +kernel
theorem dX9_takeTwo_26 : decode cX9_takeTwo 26 = .ok (.aload_n 0, 1) := by decide +kernel
theorem dX9_takeTwo_27 : decode cX9_takeTwo 27 = .ok (.invokevirtual 200, 3) := by decide +kernel
theorem dX9_takeTwo_30 : decode cX9_takeTwo 30 = .ok (.aload_n 0, 1) := by decide +kernel
theorem dX9_takeTwo_31 : decode cX9_takeTwo 31 = .ok (.aload_n 0, 1) := by decide +kernel
theorem dX9_takeTwo_32 : decode cX9_takeTwo 32 = .ok (.iload_n 1, 1) := by decide +kernel
theorem dX9_takeTwo_33 : decode cX9_takeTwo 33 = .ok (.invokevirtual 191, 3) := by decide +kernel
theorem dX9_takeTwo_36 : decode cX9_takeTwo 36 = .ok (.putfield 203, 3) := by decide +kernel
theorem dX9_takeTwo_39 : decode cX9_takeTwo 39 = .ok (.aload_n 0, 1) := by decide +kernel
theorem dX9_takeTwo_40 : decode cX9_takeTwo 40 = .ok (.aload_n 0, 1) := by decide +kernel
theorem dX9_takeTwo_41 : decode cX9_takeTwo 41 = .ok (.iload_n 2, 1) := by decide +kernel
theorem dX9_takeTwo_42 : decode cX9_takeTwo 42 = .ok (.invokevirtual 191, 3) := by decide +kernel
theorem dX9_takeTwo_45 : decode cX9_takeTwo 45 = .ok (.putfield 206, 3) := by decide +kernel
theorem dX9_takeTwo_48 : decode cX9_takeTwo 48 = .ok (.aload_n 0, 1) := by decide +kernel
theorem dX9_takeTwo_49 : decode cX9_takeTwo 49 = .ok (.invokevirtual 209, 3) := by decide +kernel
theorem dX9_takeTwo_52 : decode cX9_takeTwo 52 = .ok (.ifCond .ne 6, 3) := by decide +kernel
theorem dX9_takeTwo_55 : decode cX9_takeTwo 55 = .ok (.bipush (-7), 2) := by decide +kernel
theorem dX9_takeTwo_57 : decode cX9_takeTwo 57 = .ok (.ireturn, 1) := by decide +kernel
theorem dX9_takeTwo_58 : decode cX9_takeTwo 58 = .ok (.aload_n 0, 1) := by decide +kernel
theorem dX9_takeTwo_59 : decode cX9_takeTwo 59 = .ok (.invokevirtual 212, 3) := by decide +kernel
theorem dX9_takeTwo_62 : decode cX9_takeTwo 62 = .ok (.istore_n 3, 1) := by decide +kernel
theorem dX9_takeTwo_63 : decode cX9_takeTwo 63 = .ok (.iconst 0, 1) := by decide +kernel
theorem dX9_takeTwo_64 : decode cX9_takeTwo 64 = .ok (.ireturn, 1) := by decide +kernel
theorem dX9_same_0 : decode cX9_same 0 = .ok (.aload_n 0, 1) := by decide +kernel
theorem dX9_same_1 : decode cX9_same 1 = .ok (.iload_n 1, 1) := by decide +kernel
theorem dX9_same_2 : decode cX9_same 2 = .ok (.iload_n 2, 1) := by decide +kernel
theorem dX9_same_3 : decode cX9_same 3 = .ok (.invokevirtual 215, 3) := by decide +kernel
theorem dX9_same_6 : decode cX9_same 6 = .ok (.istore_n 3, 1) := by decide +kernel
theorem dX9_same_7 : decode cX9_same 7 = .ok (.iload_n 3, 1) := by decide +kernel
theorem dX9_same_8 : decode cX9_same 8 = .ok (.ifCond .eq 7, 3) := by decide +kernel
theorem dX9_same_11 : decode cX9_same 11 = .ok (.iload_n 3, 1) := by decide +kernel
theorem dX9_same_12 : decode cX9_same 12 = .ok (.goto 29, 3) := by decide +kernel
theorem dX9_same_15 : decode cX9_same 15 = .ok (.aload_n 0, 1) := by decide +kernel
theorem dX9_same_16 : decode cX9_same 16 = .ok (.getfield 60, 3) := by decide +kernel
theorem dX9_same_19 : decode cX9_same 19 = .ok (.aload_n 0, 1) := by decide +kernel
theorem dX9_same_20 : decode cX9_same 20 = .ok (.getfield 203, 3) := by decide +kernel
theorem dX9_same_23 : decode cX9_same 23 = .ok (.iaload, 1) := by decide +kernel
theorem dX9_same_24 : decode cX9_same 24 = .ok (.aload_n 0, 1) := by decide +kernel
theorem dX9_same_25 : decode cX9_same 25 = .ok (.getfield 60, 3) := by decide +kernel
theorem dX9_same_28 : decode cX9_same 28 = .ok (.aload_n 0, 1) := by decide +kernel
theorem dX9_same_29 : decode cX9_same 29 = .ok (.getfield 206, 3) := by decide +kernel
theorem dX9_same_32 : decode cX9_same 32 = .ok (.iaload, 1) := by decide +kernel
theorem dX9_same_33 : decode cX9_same 33 = .ok (.if_icmp .ne 7, 3) := by decide +kernel
theorem dX9_same_36 : decode cX9_same 36 = .ok (.iconst 1, 1) := by decide +kernel
theorem dX9_same_37 : decode cX9_same 37 = .ok (.goto 4, 3) := by decide +kernel
theorem dX9_same_40 : decode cX9_same 40 = .ok (.iconst 0, 1) := by decide +kernel
theorem dX9_same_41 : decode cX9_same 41 = .ok (.ireturn, 1) := by decide +kernel
theorem dX9_apart_0 : decode cX9_apart 0 = .ok (.aload_n 0, 1) := by decide +kernel
theorem dX9_apart_1 : decode cX9_apart 1 = .ok (.iload_n 1, 1) := by decide +kernel
theorem dX9_apart_2 : decode cX9_apart 2 = .ok (.iload_n 2, 1) := by decide +kernel
theorem dX9_apart_3 : decode cX9_apart 3 = .ok (.invokevirtual 215, 3) := by decide +kernel
theorem dX9_apart_6 : decode cX9_apart 6 = .ok (.istore_n 3, 1) := by decide +kernel
theorem dX9_apart_7 : decode cX9_apart 7 = .ok (.iload_n 3, 1) := by decide +kernel
theorem dX9_apart_8 : decode cX9_apart 8 = .ok (.ifCond .eq 5, 3) := by decide +kernel
theorem dX9_apart_11 : decode cX9_apart 11 = .ok (.iload_n 3, 1) := by decide +kernel
theorem dX9_apart_12 : decode cX9_apart 12 = .ok (.ireturn, 1) := by decide +kernel
theorem dX9_apart_13 : decode cX9_apart 13 = .ok (.iconst 0, 1) := by decide +kernel
theorem dX9_apart_14 : decode cX9_apart 14 = .ok (.istore 4, 2) := by decide +kernel
theorem dX9_apart_16 : decode cX9_apart 16 = .ok (.iload 4, 2) := by decide +kernel
theorem dX9_apart_18 : decode cX9_apart 18 = .ok (.bipush 14, 2) := by decide +kernel
theorem dX9_apart_20 : decode cX9_apart 20 = .ok (.if_icmp .gt 44, 3) := by decide +kernel
theorem dX9_apart_23 : decode cX9_apart 23 = .ok (.aload_n 0, 1) := by decide +kernel
theorem dX9_apart_24 : decode cX9_apart 24 = .ok (.getfield 66, 3) := by decide +kernel
theorem dX9_apart_27 : decode cX9_apart 27 = .ok (.sipush 201, 3) := by decide +kernel
theorem dX9_apart_30 : decode cX9_apart 30 = .ok (.iload 4, 2) := by decide +kernel
theorem dX9_apart_32 : decode cX9_apart 32 = .ok (.imul, 1) := by decide +kernel
theorem dX9_apart_33 : decode cX9_apart 33 = .ok (.aload_n 0, 1) := by decide +kernel
theorem dX9_apart_34 : decode cX9_apart 34 = .ok (.getfield 203, 3) := by decide +kernel
theorem dX9_apart_37 : decode cX9_apart 37 = .ok (.iadd, 1) := by decide +kernel
theorem dX9_apart_38 : decode cX9_apart 38 = .ok (.iaload, 1) := by decide +kernel
theorem dX9_apart_39 : decode cX9_apart 39 = .ok (.aload_n 0, 1) := by decide +kernel
theorem dX9_apart_40 : decode cX9_apart 40 = .ok (.getfield 66, 3) := by decide +kernel
theorem dX9_apart_43 : decode cX9_apart 43 = .ok (.sipush 201, 3) := by decide +kernel
theorem dX9_apart_46 : decode cX9_apart 46 = .ok (.iload 4, 2) := by decide +kernel
theorem dX9_apart_48 : decode cX9_apart 48 = .ok (.imul, 1) := by decide +kernel
theorem dX9_apart_49 : decode cX9_apart 49 = .ok (.aload_n 0, 1) := by decide +kernel
theorem dX9_apart_50 : decode cX9_apart 50 = .ok (.getfield 206, 3) := by decide +kernel
theorem dX9_apart_53 : decode cX9_apart 53 = .ok (.iadd, 1) := by decide +kernel
theorem dX9_apart_54 : decode cX9_apart 54 = .ok (.iaload, 1) := by decide +kernel
theorem dX9_apart_55 : decode cX9_apart 55 = .ok (.if_icmp .ne 9, 3) := by decide +kernel
theorem dX9_apart_58 : decode cX9_apart 58 = .ok (.iinc 4 1, 3) := by decide +kernel
theorem dX9_apart_61 : decode cX9_apart 61 = .ok (.goto (-45), 3) := by decide +kernel
theorem dX9_apart_64 : decode cX9_apart 64 = .ok (.iload 4, 2) := by decide +kernel
theorem dX9_apart_66 : decode cX9_apart 66 = .ok (.bipush 14, 2) := by decide +kernel
theorem dX9_apart_68 : decode cX9_apart 68 = .ok (.if_icmp .le 6, 3) := by decide +kernel
theorem dX9_apart_71 : decode cX9_apart 71 = .ok (.bipush (-8), 2) := by decide +kernel
theorem dX9_apart_73 : decode cX9_apart 73 = .ok (.ireturn, 1) := by decide +kernel
theorem dX9_apart_74 : decode cX9_apart 74 = .ok (.aload_n 0, 1) := by decide +kernel
theorem dX9_apart_75 : decode cX9_apart 75 = .ok (.getfield 203, 3) := by decide +kernel
theorem dX9_apart_78 : decode cX9_apart 78 = .ok (.istore 5, 2) := by decide +kernel
theorem dX9_apart_80 : decode cX9_apart 80 = .ok (.aload_n 0, 1) := by decide +kernel
theorem dX9_apart_81 : decode cX9_apart 81 = .ok (.getfield 206, 3) := by decide +kernel
theorem dX9_apart_84 : decode cX9_apart 84 = .ok (.istore 6, 2) := by decide +kernel
theorem dX9_apart_86 : decode cX9_apart 86 = .ok (.iconst 1, 1) := by decide +kernel
theorem dX9_apart_87 : decode cX9_apart 87 = .ok (.istore 7, 2) := by decide +kernel
theorem dX9_apart_89 : decode cX9_apart 89 = .ok (.iload 4, 2) := by decide +kernel
theorem dX9_apart_91 : decode cX9_apart 91 = .ok (.istore 8, 2) := by decide +kernel
theorem dX9_apart_93 : decode cX9_apart 93 = .ok (.iload 8, 2) := by decide +kernel
theorem dX9_apart_95 : decode cX9_apart 95 = .ok (.ifCond .le 70, 3) := by decide +kernel
theorem dX9_apart_98 : decode cX9_apart 98 = .ok (.iconst 0, 1) := by decide +kernel
theorem dX9_apart_99 : decode cX9_apart 99 = .ok (.istore 9, 2) := by decide +kernel
theorem dX9_apart_101 : decode cX9_apart 101 = .ok (.aload_n 0, 1) := by decide +kernel
theorem dX9_apart_102 : decode cX9_apart 102 = .ok (.iload 5, 2) := by decide +kernel
theorem dX9_apart_104 : decode cX9_apart 104 = .ok (.iload 6, 2) := by decide +kernel
theorem dX9_apart_106 : decode cX9_apart 106 = .ok (.iload 9, 2) := by decide +kernel
theorem dX9_apart_108 : decode cX9_apart 108 = .ok (.iload 8, 2) := by decide +kernel
theorem dX9_apart_110 : decode cX9_apart 110 = .ok (.invokevirtual 219, 3) := by decide +kernel
theorem dX9_apart_113 : decode cX9_apart 113 = .ok (.ifCond .ne 9, 3) := by decide +kernel
theorem dX9_apart_116 : decode cX9_apart 116 = .ok (.iinc 9 1, 3) := by decide +kernel
theorem dX9_apart_119 : decode cX9_apart 119 = .ok (.goto (-18), 3) := by decide +kernel
theorem dX9_apart_122 : decode cX9_apart 122 = .ok (.iconst 4, 1) := by decide +kernel
theorem dX9_apart_123 : decode cX9_apart 123 = .ok (.iload 7, 2) := by decide +kernel
theorem dX9_apart_125 : decode cX9_apart 125 = .ok (.imul, 1) := by decide +kernel
theorem dX9_apart_126 : decode cX9_apart 126 = .ok (.iload 9, 2) := by decide +kernel
theorem dX9_apart_128 : decode cX9_apart 128 = .ok (.iadd, 1) := by decide +kernel
theorem dX9_apart_129 : decode cX9_apart 129 = .ok (.istore 7, 2) := by decide +kernel
theorem dX9_apart_131 : decode cX9_apart 131 = .ok (.aload_n 0, 1) := by decide +kernel
theorem dX9_apart_132 : decode cX9_apart 132 = .ok (.getfield 57, 3) := by decide +kernel
theorem dX9_apart_135 : decode cX9_apart 135 = .ok (.iconst 4, 1) := by decide +kernel
theorem dX9_apart_136 : decode cX9_apart 136 = .ok (.iload 5, 2) := by decide +kernel
theorem dX9_apart_138 : decode cX9_apart 138 = .ok (.imul, 1) := by decide +kernel
theorem dX9_apart_139 : decode cX9_apart 139 = .ok (.iload 9, 2) := by decide +kernel
theorem dX9_apart_141 : decode cX9_apart 141 = .ok (.iadd, 1) := by decide +kernel
theorem dX9_apart_142 : decode cX9_apart 142 = .ok (.iaload, 1) := by decide +kernel
theorem dX9_apart_143 : decode cX9_apart 143 = .ok (.istore 5, 2) := by decide +kernel
theorem dX9_apart_145 : decode cX9_apart 145 = .ok (.aload_n 0, 1) := by decide +kernel
theorem dX9_apart_146 : decode cX9_apart 146 = .ok (.getfield 57, 3) := by decide +kernel
theorem dX9_apart_149 : decode cX9_apart 149 = .ok (.iconst 4, 1) := by decide +kernel
theorem dX9_apart_150 : decode cX9_apart 150 = .ok (.iload 6, 2) := by decide +kernel
theorem dX9_apart_152 : decode cX9_apart 152 = .ok (.imul, 1) := by decide +kernel
theorem dX9_apart_153 : decode cX9_apart 153 = .ok (.iload 9, 2) := by decide +kernel
theorem dX9_apart_155 : decode cX9_apart 155 = .ok (.iadd, 1) := by decide +kernel
theorem dX9_apart_156 : decode cX9_apart 156 = .ok (.iaload, 1) := by decide +kernel
theorem dX9_apart_157 : decode cX9_apart 157 = .ok (.istore 6, 2) := by decide +kernel
theorem dX9_apart_159 : decode cX9_apart 159 = .ok (.iinc 8 (-1), 3) := by decide +kernel
theorem dX9_apart_162 : decode cX9_apart 162 = .ok (.goto (-69), 3) := by decide +kernel
theorem dX9_apart_165 : decode cX9_apart 165 = .ok (.iload 7, 2) := by decide +kernel
theorem dX9_apart_167 : decode cX9_apart 167 = .ok (.ireturn, 1) := by decide +kernel
theorem dX9_isParted_0 : decode cX9_isParted 0 = .ok (.aload_n 0, 1) := by decide +kernel
theorem dX9_isParted_1 : decode cX9_isParted 1 = .ok (.getfield 54, 3) := by decide +kernel
theorem dX9_isParted_4 : decode cX9_isParted 4 = .ok (.iconst 4, 1) := by decide +kernel
theorem dX9_isParted_5 : decode cX9_isParted 5 = .ok (.iload_n 1, 1) := by decide +kernel
theorem dX9_isParted_6 : decode cX9_isParted 6 = .ok (.imul, 1) := by decide +kernel
theorem dX9_isParted_7 : decode cX9_isParted 7 = .ok (.iload_n 3, 1) := by decide +kernel
theorem dX9_isParted_8 : decode cX9_isParted 8 = .ok (.iadd, 1) := by decide +kernel
theorem dX9_isParted_9 : decode cX9_isParted 9 = .ok (.iaload, 1) := by decide +kernel
theorem dX9_isParted_10 : decode cX9_isParted 10 = .ok (.aload_n 0, 1) := by decide +kernel
theorem dX9_isParted_11 : decode cX9_isParted 11 = .ok (.getfield 54, 3) := by decide +kernel
theorem dX9_isParted_14 : decode cX9_isParted 14 = .ok (.iconst 4, 1) := by decide +kernel
theorem dX9_isParted_15 : decode cX9_isParted 15 = .ok (.iload_n 2, 1) := by decide +kernel
theorem dX9_isParted_16 : decode cX9_isParted 16 = .ok (.imul, 1) := by decide +kernel
theorem dX9_isParted_17 : decode cX9_isParted 17 = .ok (.iload_n 3, 1) := by decide +kernel
theorem dX9_isParted_18 : decode cX9_isParted 18 = .ok (.iadd, 1) := by decide +kernel
theorem dX9_isParted_19 : decode cX9_isParted 19 = .ok (.iaload, 1) := by decide +kernel
theorem dX9_isParted_20 : decode cX9_isParted 20 = .ok (.if_icmp .eq 5, 3) := by decide +kernel
theorem dX9_isParted_23 : decode cX9_isParted 23 = .ok (.iconst 1, 1) := by decide +kernel
theorem dX9_isParted_24 : decode cX9_isParted 24 = .ok (.ireturn, 1) := by decide +kernel
theorem dX9_isParted_25 : decode cX9_isParted 25 = .ok (.sipush 201, 3) := by decide +kernel
theorem dX9_isParted_28 : decode cX9_isParted 28 = .ok (.iload 4, 2) := by decide +kernel
theorem dX9_isParted_30 : decode cX9_isParted 30 = .ok (.iconst 1, 1) := by decide +kernel
theorem dX9_isParted_31 : decode cX9_isParted 31 = .ok (.isub, 1) := by decide +kernel
theorem dX9_isParted_32 : decode cX9_isParted 32 = .ok (.imul, 1) := by decide +kernel
theorem dX9_isParted_33 : decode cX9_isParted 33 = .ok (.istore 5, 2) := by decide +kernel
theorem dX9_isParted_35 : decode cX9_isParted 35 = .ok (.aload_n 0, 1) := by decide +kernel
theorem dX9_isParted_36 : decode cX9_isParted 36 = .ok (.getfield 66, 3) := by decide +kernel
theorem dX9_isParted_39 : decode cX9_isParted 39 = .ok (.iload 5, 2) := by decide +kernel
theorem dX9_isParted_41 : decode cX9_isParted 41 = .ok (.aload_n 0, 1) := by decide +kernel
theorem dX9_isParted_42 : decode cX9_isParted 42 = .ok (.getfield 57, 3) := by decide +kernel
theorem dX9_isParted_45 : decode cX9_isParted 45 = .ok (.iconst 4, 1) := by decide +kernel
theorem dX9_isParted_46 : decode cX9_isParted 46 = .ok (.iload_n 1, 1) := by decide +kernel
theorem dX9_isParted_47 : decode cX9_isParted 47 = .ok (.imul, 1) := by decide +kernel
theorem dX9_isParted_48 : decode cX9_isParted 48 = .ok (.iload_n 3, 1) := by decide +kernel
theorem dX9_isParted_49 : decode cX9_isParted 49 = .ok (.iadd, 1) := by decide +kernel
theorem dX9_isParted_50 : decode cX9_isParted 50 = .ok (.iaload, 1) := by decide +kernel
theorem dX9_isParted_51 : decode cX9_isParted 51 = .ok (.iadd, 1) := by decide +kernel
theorem dX9_isParted_52 : decode cX9_isParted 52 = .ok (.iaload, 1) := by decide +kernel
theorem dX9_isParted_53 : decode cX9_isParted 53 = .ok (.aload_n 0, 1) := by decide +kernel
theorem dX9_isParted_54 : decode cX9_isParted 54 = .ok (.getfield 66, 3) := by decide +kernel
theorem dX9_isParted_57 : decode cX9_isParted 57 = .ok (.iload 5, 2) := by decide +kernel
theorem dX9_isParted_59 : decode cX9_isParted 59 = .ok (.aload_n 0, 1) := by decide +kernel
theorem dX9_isParted_60 : decode cX9_isParted 60 = .ok (.getfield 57, 3) := by decide +kernel
theorem dX9_isParted_63 : decode cX9_isParted 63 = .ok (.iconst 4, 1) := by decide +kernel
theorem dX9_isParted_64 : decode cX9_isParted 64 = .ok (.iload_n 2, 1) := by decide +kernel
theorem dX9_isParted_65 : decode cX9_isParted 65 = .ok (.imul, 1) := by decide +kernel
theorem dX9_isParted_66 : decode cX9_isParted 66 = .ok (.iload_n 3, 1) := by decide +kernel
theorem dX9_isParted_67 : decode cX9_isParted 67 = .ok (.iadd, 1) := by decide +kernel
theorem dX9_isParted_68 : decode cX9_isParted 68 = .ok (.iaload, 1) := by decide +kernel
theorem dX9_isParted_69 : decode cX9_isParted 69 = .ok (.iadd, 1) := by decide +kernel
theorem dX9_isParted_70 : decode cX9_isParted 70 = .ok (.iaload, 1) := by decide +kernel
theorem dX9_isParted_71 : decode cX9_isParted 71 = .ok (.if_icmp .eq 7, 3) := by decide +kernel
theorem dX9_isParted_74 : decode cX9_isParted 74 = .ok (.iconst 1, 1) := by decide +kernel
theorem dX9_isParted_75 : decode cX9_isParted 75 = .ok (.goto 4, 3) := by decide +kernel
theorem dX9_isParted_78 : decode cX9_isParted 78 = .ok (.iconst 0, 1) := by decide +kernel
theorem dX9_isParted_79 : decode cX9_isParted 79 = .ok (.ireturn, 1) := by decide +kernel
theorem dX9_heap_0 : decode cX9_heap 0 = .ok (.aload_n 0, 1) := by decide +kernel
theorem dX9_heap_1 : decode cX9_heap 1 = .ok (.iload_n 1, 1) := by decide +kernel
theorem dX9_heap_2 : decode cX9_heap 2 = .ok (.iload_n 1, 1) := by decide +kernel
theorem dX9_heap_3 : decode cX9_heap 3 = .ok (.invokevirtual 215, 3) := by decide +kernel
theorem dX9_heap_6 : decode cX9_heap 6 = .ok (.istore_n 2, 1) := by decide +kernel
theorem dX9_heap_7 : decode cX9_heap 7 = .ok (.iload_n 2, 1) := by decide +kernel
theorem dX9_heap_8 : decode cX9_heap 8 = .ok (.ifCond .eq 7, 3) := by decide +kernel
theorem dX9_heap_11 : decode cX9_heap 11 = .ok (.iload_n 2, 1) := by decide +kernel
theorem dX9_heap_12 : decode cX9_heap 12 = .ok (.goto 7, 3) := by decide +kernel
theorem dX9_heap_15 : decode cX9_heap 15 = .ok (.aload_n 0, 1) := by decide +kernel
theorem dX9_heap_16 : decode cX9_heap 16 = .ok (.getfield 178, 3) := by decide +kernel
theorem dX9_heap_19 : decode cX9_heap 19 = .ok (.ireturn, 1) := by decide +kernel
theorem dX9_least_0 : decode cX9_least 0 = .ok (.aload_n 0, 1) := by decide +kernel
theorem dX9_least_1 : decode cX9_least 1 = .ok (.iload_n 1, 1) := by decide +kernel
theorem dX9_least_2 : decode cX9_least 2 = .ok (.iload_n 1, 1) := by decide +kernel
theorem dX9_least_3 : decode cX9_least 3 = .ok (.invokevirtual 215, 3) := by decide +kernel
theorem dX9_least_6 : decode cX9_least 6 = .ok (.istore_n 2, 1) := by decide +kernel
theorem dX9_least_7 : decode cX9_least 7 = .ok (.iload_n 2, 1) := by decide +kernel
theorem dX9_least_8 : decode cX9_least 8 = .ok (.ifCond .eq 7, 3) := by decide +kernel
theorem dX9_least_11 : decode cX9_least 11 = .ok (.iload_n 2, 1) := by decide +kernel
theorem dX9_least_12 : decode cX9_least 12 = .ok (.goto 7, 3) := by decide +kernel
theorem dX9_least_15 : decode cX9_least 15 = .ok (.aload_n 0, 1) := by decide +kernel
theorem dX9_least_16 : decode cX9_least 16 = .ok (.invokevirtual 212, 3) := by decide +kernel
theorem dX9_least_19 : decode cX9_least 19 = .ok (.ireturn, 1) := by decide +kernel
theorem dX9_rowsOf_0 : decode cX9_rowsOf 0 = .ok (.iload_n 1, 1) := by decide +kernel
theorem dX9_rowsOf_1 : decode cX9_rowsOf 1 = .ok (.ifCond .ge 5, 3) := by decide +kernel
theorem dX9_rowsOf_4 : decode cX9_rowsOf 4 = .ok (.iconst (-1), 1) := by decide +kernel
theorem dX9_rowsOf_5 : decode cX9_rowsOf 5 = .ok (.ireturn, 1) := by decide +kernel
theorem dX9_rowsOf_6 : decode cX9_rowsOf 6 = .ok (.iconst 1, 1) := by decide +kernel
theorem dX9_rowsOf_7 : decode cX9_rowsOf 7 = .ok (.istore_n 3, 1) := by decide +kernel
theorem dX9_rowsOf_8 : decode cX9_rowsOf 8 = .ok (.iconst 0, 1) := by decide +kernel
theorem dX9_rowsOf_9 : decode cX9_rowsOf 9 = .ok (.istore 4, 2) := by decide +kernel
theorem dX9_rowsOf_11 : decode cX9_rowsOf 11 = .ok (.iload 4, 2) := by decide +kernel
theorem dX9_rowsOf_13 : decode cX9_rowsOf 13 = .ok (.iload_n 1, 1) := by decide +kernel
theorem dX9_rowsOf_14 : decode cX9_rowsOf 14 = .ok (.if_icmp .ge 21, 3) := by decide +kernel
theorem dX9_rowsOf_17 : decode cX9_rowsOf 17 = .ok (.iload_n 3, 1) := by decide +kernel
theorem dX9_rowsOf_18 : decode cX9_rowsOf 18 = .ok (.iload_n 2, 1) := by decide +kernel
theorem dX9_rowsOf_19 : decode cX9_rowsOf 19 = .ok (.if_icmp .gt 16, 3) := by decide +kernel
theorem dX9_rowsOf_22 : decode cX9_rowsOf 22 = .ok (.iload_n 3, 1) := by decide +kernel
theorem dX9_rowsOf_23 : decode cX9_rowsOf 23 = .ok (.aload_n 0, 1) := by decide +kernel
theorem dX9_rowsOf_24 : decode cX9_rowsOf 24 = .ok (.getfield 19, 3) := by decide +kernel
theorem dX9_rowsOf_27 : decode cX9_rowsOf 27 = .ok (.imul, 1) := by decide +kernel
theorem dX9_rowsOf_28 : decode cX9_rowsOf 28 = .ok (.istore_n 3, 1) := by decide +kernel
theorem dX9_rowsOf_29 : decode cX9_rowsOf 29 = .ok (.iinc 4 1, 3) := by decide +kernel
theorem dX9_rowsOf_32 : decode cX9_rowsOf 32 = .ok (.goto (-21), 3) := by decide +kernel
theorem dX9_rowsOf_35 : decode cX9_rowsOf 35 = .ok (.iload_n 3, 1) := by decide +kernel
theorem dX9_rowsOf_36 : decode cX9_rowsOf 36 = .ok (.iload_n 2, 1) := by decide +kernel
theorem dX9_rowsOf_37 : decode cX9_rowsOf 37 = .ok (.if_icmp .gt 7, 3) := by decide +kernel
theorem dX9_rowsOf_40 : decode cX9_rowsOf 40 = .ok (.iload_n 3, 1) := by decide +kernel
theorem dX9_rowsOf_41 : decode cX9_rowsOf 41 = .ok (.goto 4, 3) := by decide +kernel
theorem dX9_rowsOf_44 : decode cX9_rowsOf 44 = .ok (.iconst (-1), 1) := by decide +kernel
theorem dX9_rowsOf_45 : decode cX9_rowsOf 45 = .ok (.ireturn, 1) := by decide +kernel
theorem dX9_rowAt_0 : decode cX9_rowAt 0 = .ok (.aload_n 0, 1) := by decide +kernel
theorem dX9_rowAt_1 : decode cX9_rowAt 1 = .ok (.iload_n 2, 1) := by decide +kernel
theorem dX9_rowAt_2 : decode cX9_rowAt 2 = .ok (.putfield 156, 3) := by decide +kernel
theorem dX9_rowAt_5 : decode cX9_rowAt 5 = .ok (.iload_n 1, 1) := by decide +kernel
theorem dX9_rowAt_6 : decode cX9_rowAt 6 = .ok (.istore_n 3, 1) := by decide +kernel
theorem dX9_rowAt_7 : decode cX9_rowAt 7 = .ok (.iload_n 2, 1) := by decide +kernel
theorem dX9_rowAt_8 : decode cX9_rowAt 8 = .ok (.iconst 1, 1) := by decide +kernel
theorem dX9_rowAt_9 : decode cX9_rowAt 9 = .ok (.isub, 1) := by decide +kernel
theorem dX9_rowAt_10 : decode cX9_rowAt 10 = .ok (.istore 4, 2) := by decide +kernel
theorem dX9_rowAt_12 : decode cX9_rowAt 12 = .ok (.iload 4, 2) := by decide +kernel
theorem dX9_rowAt_14 : decode cX9_rowAt 14 = .ok (.ifCond .lt 29, 3) := by decide +kernel
theorem dX9_rowAt_17 : decode cX9_rowAt 17 = .ok (.aload_n 0, 1) := by decide +kernel
theorem dX9_rowAt_18 : decode cX9_rowAt 18 = .ok (.getfield 45, 3) := by decide +kernel
theorem dX9_rowAt_21 : decode cX9_rowAt 21 = .ok (.iload 4, 2) := by decide +kernel
theorem dX9_rowAt_23 : decode cX9_rowAt 23 = .ok (.iload_n 3, 1) := by decide +kernel
theorem dX9_rowAt_24 : decode cX9_rowAt 24 = .ok (.aload_n 0, 1) := by decide +kernel
theorem dX9_rowAt_25 : decode cX9_rowAt 25 = .ok (.getfield 19, 3) := by decide +kernel
theorem dX9_rowAt_28 : decode cX9_rowAt 28 = .ok (.irem, 1) := by decide +kernel
theorem dX9_rowAt_29 : decode cX9_rowAt 29 = .ok (.iastore, 1) := by decide +kernel
theorem dX9_rowAt_30 : decode cX9_rowAt 30 = .ok (.iload_n 3, 1) := by decide +kernel
theorem dX9_rowAt_31 : decode cX9_rowAt 31 = .ok (.aload_n 0, 1) := by decide +kernel
theorem dX9_rowAt_32 : decode cX9_rowAt 32 = .ok (.getfield 19, 3) := by decide +kernel
theorem dX9_rowAt_35 : decode cX9_rowAt 35 = .ok (.idiv, 1) := by decide +kernel
theorem dX9_rowAt_36 : decode cX9_rowAt 36 = .ok (.istore_n 3, 1) := by decide +kernel
theorem dX9_rowAt_37 : decode cX9_rowAt 37 = .ok (.iinc 4 (-1), 3) := by decide +kernel
theorem dX9_rowAt_40 : decode cX9_rowAt 40 = .ok (.goto (-28), 3) := by decide +kernel
theorem dX9_rowAt_43 : decode cX9_rowAt 43 = .ok (.return_, 1) := by decide +kernel
theorem dX9_placeNow_0 : decode cX9_placeNow 0 = .ok (.iconst 0, 1) := by decide +kernel
theorem dX9_placeNow_1 : decode cX9_placeNow 1 = .ok (.istore_n 1, 1) := by decide +kernel
theorem dX9_placeNow_2 : decode cX9_placeNow 2 = .ok (.iconst 0, 1) := by decide +kernel
theorem dX9_placeNow_3 : decode cX9_placeNow 3 = .ok (.istore_n 2, 1) := by decide +kernel
theorem dX9_placeNow_4 : decode cX9_placeNow 4 = .ok (.iload_n 2, 1) := by decide +kernel
theorem dX9_placeNow_5 : decode cX9_placeNow 5 = .ok (.aload_n 0, 1) := by decide +kernel
theorem dX9_placeNow_6 : decode cX9_placeNow 6 = .ok (.getfield 156, 3) := by decide +kernel
theorem dX9_placeNow_9 : decode cX9_placeNow 9 = .ok (.if_icmp .ge 23, 3) := by decide +kernel
theorem dX9_placeNow_12 : decode cX9_placeNow 12 = .ok (.iload_n 1, 1) := by decide +kernel
theorem dX9_placeNow_13 : decode cX9_placeNow 13 = .ok (.aload_n 0, 1) := by decide +kernel
theorem dX9_placeNow_14 : decode cX9_placeNow 14 = .ok (.getfield 19, 3) := by decide +kernel
theorem dX9_placeNow_17 : decode cX9_placeNow 17 = .ok (.imul, 1) := by decide +kernel
theorem dX9_placeNow_18 : decode cX9_placeNow 18 = .ok (.aload_n 0, 1) := by decide +kernel
theorem dX9_placeNow_19 : decode cX9_placeNow 19 = .ok (.getfield 45, 3) := by decide +kernel
theorem dX9_placeNow_22 : decode cX9_placeNow 22 = .ok (.iload_n 2, 1) := by decide +kernel
theorem dX9_placeNow_23 : decode cX9_placeNow 23 = .ok (.iaload, 1) := by decide +kernel
theorem dX9_placeNow_24 : decode cX9_placeNow 24 = .ok (.iadd, 1) := by decide +kernel
theorem dX9_placeNow_25 : decode cX9_placeNow 25 = .ok (.istore_n 1, 1) := by decide +kernel
theorem dX9_placeNow_26 : decode cX9_placeNow 26 = .ok (.iinc 2 1, 3) := by decide +kernel
theorem dX9_placeNow_29 : decode cX9_placeNow 29 = .ok (.goto (-25), 3) := by decide +kernel
theorem dX9_placeNow_32 : decode cX9_placeNow 32 = .ok (.iload_n 1, 1) := by decide +kernel
theorem dX9_placeNow_33 : decode cX9_placeNow 33 = .ok (.ireturn, 1) := by decide +kernel
theorem dX9_findLevel_0 : decode cX9_findLevel 0 = .ok (.aload_n 0, 1) := by decide +kernel
theorem dX9_findLevel_1 : decode cX9_findLevel 1 = .ok (.aload_n 0, 1) := by decide +kernel
theorem dX9_findLevel_2 : decode cX9_findLevel 2 = .ok (.iload_n 1, 1) := by decide +kernel
theorem dX9_findLevel_3 : decode cX9_findLevel 3 = .ok (.sipush 256, 3) := by decide +kernel
theorem dX9_findLevel_6 : decode cX9_findLevel 6 = .ok (.invokevirtual 223, 3) := by decide +kernel
theorem dX9_findLevel_9 : decode cX9_findLevel 9 = .ok (.putfield 226, 3) := by decide +kernel
theorem dX9_findLevel_12 : decode cX9_findLevel 12 = .ok (.aload_n 0, 1) := by decide +kernel
theorem dX9_findLevel_13 : decode cX9_findLevel 13 = .ok (.invokevirtual 130, 3) := by decide +kernel
theorem dX9_findLevel_16 : decode cX9_findLevel 16 = .ok (.iconst 0, 1) := by decide +kernel
theorem dX9_findLevel_17 : decode cX9_findLevel 17 = .ok (.istore_n 2, 1) := by decide +kernel
theorem dX9_findLevel_18 : decode cX9_findLevel 18 = .ok (.iload_n 2, 1) := by decide +kernel
theorem dX9_findLevel_19 : decode cX9_findLevel 19 = .ok (.aload_n 0, 1) := by decide +kernel
theorem dX9_findLevel_20 : decode cX9_findLevel 20 = .ok (.getfield 127, 3) := by decide +kernel
theorem dX9_findLevel_23 : decode cX9_findLevel 23 = .ok (.if_icmp .ge 57, 3) := by decide +kernel
theorem dX9_findLevel_26 : decode cX9_findLevel 26 = .ok (.iconst 0, 1) := by decide +kernel
theorem dX9_findLevel_27 : decode cX9_findLevel 27 = .ok (.istore_n 3, 1) := by decide +kernel
theorem dX9_findLevel_28 : decode cX9_findLevel 28 = .ok (.iload_n 3, 1) := by decide +kernel
theorem dX9_findLevel_29 : decode cX9_findLevel 29 = .ok (.aload_n 0, 1) := by decide +kernel
theorem dX9_findLevel_30 : decode cX9_findLevel 30 = .ok (.getfield 226, 3) := by decide +kernel
theorem dX9_findLevel_33 : decode cX9_findLevel 33 = .ok (.if_icmp .ge 41, 3) := by decide +kernel
theorem dX9_findLevel_36 : decode cX9_findLevel 36 = .ok (.aload_n 0, 1) := by decide +kernel
theorem dX9_findLevel_37 : decode cX9_findLevel 37 = .ok (.iload_n 3, 1) := by decide +kernel
theorem dX9_findLevel_38 : decode cX9_findLevel 38 = .ok (.iload_n 1, 1) := by decide +kernel
theorem dX9_findLevel_39 : decode cX9_findLevel 39 = .ok (.invokevirtual 229, 3) := by decide +kernel
theorem dX9_findLevel_42 : decode cX9_findLevel 42 = .ok (.aload_n 0, 1) := by decide +kernel
theorem dX9_findLevel_43 : decode cX9_findLevel 43 = .ok (.aload_n 0, 1) := by decide +kernel
theorem dX9_findLevel_44 : decode cX9_findLevel 44 = .ok (.getfield 39, 3) := by decide +kernel
theorem dX9_findLevel_47 : decode cX9_findLevel 47 = .ok (.iload_n 2, 1) := by decide +kernel
theorem dX9_findLevel_48 : decode cX9_findLevel 48 = .ok (.iaload, 1) := by decide +kernel
theorem dX9_findLevel_49 : decode cX9_findLevel 49 = .ok (.invokevirtual 163, 3) := by decide +kernel
theorem dX9_findLevel_52 : decode cX9_findLevel 52 = .ok (.aload_n 0, 1) := by decide +kernel
theorem dX9_findLevel_53 : decode cX9_findLevel 53 = .ok (.getfield 69, 3) := by decide +kernel
theorem dX9_findLevel_56 : decode cX9_findLevel 56 = .ok (.sipush 256, 3) := by decide +kernel
theorem dX9_findLevel_59 : decode cX9_findLevel 59 = .ok (.iload_n 2, 1) := by decide +kernel
theorem dX9_findLevel_60 : decode cX9_findLevel 60 = .ok (.imul, 1) := by decide +kernel
theorem dX9_findLevel_61 : decode cX9_findLevel 61 = .ok (.iload_n 3, 1) := by decide +kernel
theorem dX9_findLevel_62 : decode cX9_findLevel 62 = .ok (.iadd, 1) := by decide +kernel
theorem dX9_findLevel_63 : decode cX9_findLevel 63 = .ok (.aload_n 0, 1) := by decide +kernel
theorem dX9_findLevel_64 : decode cX9_findLevel 64 = .ok (.invokevirtual 232, 3) := by decide +kernel
theorem dX9_findLevel_67 : decode cX9_findLevel 67 = .ok (.iastore, 1) := by decide +kernel
theorem dX9_findLevel_68 : decode cX9_findLevel 68 = .ok (.iinc 3 1, 3) := by decide +kernel
theorem dX9_findLevel_71 : decode cX9_findLevel 71 = .ok (.goto (-43), 3) := by decide +kernel
theorem dX9_findLevel_74 : decode cX9_findLevel 74 = .ok (.iinc 2 1, 3) := by decide +kernel
theorem dX9_findLevel_77 : decode cX9_findLevel 77 = .ok (.goto (-59), 3) := by decide +kernel
theorem dX9_findLevel_80 : decode cX9_findLevel 80 = .ok (.return_, 1) := by decide +kernel
theorem dX9_isTokenBack_0 : decode cX9_isTokenBack 0 = .ok (.aload_n 0, 1) := by decide +kernel
theorem dX9_isTokenBack_1 : decode cX9_isTokenBack 1 = .ok (.iload_n 1, 1) := by decide +kernel
theorem dX9_isTokenBack_2 : decode cX9_isTokenBack 2 = .ok (.ifCond .ge 10, 3) := by decide +kernel
theorem dX9_isTokenBack_5 : decode cX9_isTokenBack 5 = .ok (.iload_n 1, 1) := by decide +kernel
theorem dX9_isTokenBack_6 : decode cX9_isTokenBack 6 = .ok (.ineg, 1) := by decide +kernel
theorem dX9_isTokenBack_7 : decode cX9_isTokenBack 7 = .ok (.iconst 1, 1) := by decide +kernel
theorem dX9_isTokenBack_8 : decode cX9_isTokenBack 8 = .ok (.isub, 1) := by decide +kernel
theorem dX9_isTokenBack_9 : decode cX9_isTokenBack 9 = .ok (.goto 6, 3) := by decide +kernel
theorem dX9_isTokenBack_12 : decode cX9_isTokenBack 12 = .ok (.iload_n 1, 1) := by decide +kernel
theorem dX9_isTokenBack_13 : decode cX9_isTokenBack 13 = .ok (.iconst 1, 1) := by decide +kernel
theorem dX9_isTokenBack_14 : decode cX9_isTokenBack 14 = .ok (.isub, 1) := by decide +kernel
theorem dX9_isTokenBack_15 : decode cX9_isTokenBack 15 = .ok (.invokevirtual 124, 3) := by decide +kernel
theorem dX9_isTokenBack_18 : decode cX9_isTokenBack 18 = .ok (.ireturn, 1) := by decide +kernel
theorem dX9_common_0 : decode cX9_common 0 = .ok (.lload_n 0, 1) := by decide +kernel
theorem dX9_common_1 : decode cX9_common 1 = .ok (.lstore 4, 2) := by decide +kernel
theorem dX9_common_3 : decode cX9_common 3 = .ok (.lload_n 2, 1) := by decide +kernel
theorem dX9_common_4 : decode cX9_common 4 = .ok (.lstore 6, 2) := by decide +kernel
theorem dX9_common_6 : decode cX9_common 6 = .ok (.lload 6, 2) := by decide +kernel
theorem dX9_common_8 : decode cX9_common 8 = .ok (.lconst 0, 1) := by decide +kernel
theorem dX9_common_9 : decode cX9_common 9 = .ok (.lcmp, 1) := by decide +kernel
theorem dX9_common_10 : decode cX9_common 10 = .ok (.ifCond .eq 21, 3) := by decide +kernel
theorem dX9_common_13 : decode cX9_common 13 = .ok (.lload 4, 2) := by decide +kernel
theorem dX9_common_15 : decode cX9_common 15 = .ok (.lload 6, 2) := by decide +kernel
theorem dX9_common_17 : decode cX9_common 17 = .ok (.lrem, 1) := by decide +kernel
theorem dX9_common_18 : decode cX9_common 18 = .ok (.lstore 8, 2) := by decide +kernel
theorem dX9_common_20 : decode cX9_common 20 = .ok (.lload 6, 2) := by decide +kernel
theorem dX9_common_22 : decode cX9_common 22 = .ok (.lstore 4, 2) := by decide +kernel
theorem dX9_common_24 : decode cX9_common 24 = .ok (.lload 8, 2) := by decide +kernel
theorem dX9_common_26 : decode cX9_common 26 = .ok (.lstore 6, 2) := by decide +kernel
theorem dX9_common_28 : decode cX9_common 28 = .ok (.goto (-22), 3) := by decide +kernel
theorem dX9_common_31 : decode cX9_common 31 = .ok (.lload 4, 2) := by decide +kernel
theorem dX9_common_33 : decode cX9_common 33 = .ok (.lreturn, 1) := by decide +kernel
theorem dX9_order_0 : decode cX9_order 0 = .ok (.aload_n 0, 1) := by decide +kernel
theorem dX9_order_1 : decode cX9_order 1 = .ok (.iload_n 2, 1) := by decide +kernel
theorem dX9_order_2 : decode cX9_order 2 = .ok (.sipush 256, 3) := by decide +kernel
theorem dX9_order_5 : decode cX9_order 5 = .ok (.invokevirtual 223, 3) := by decide +kernel
theorem dX9_order_8 : decode cX9_order 8 = .ok (.istore_n 3, 1) := by decide +kernel
theorem dX9_order_9 : decode cX9_order 9 = .ok (.iload_n 1, 1) := by decide +kernel
theorem dX9_order_10 : decode cX9_order 10 = .ok (.invokestatic 137, 3) := by decide +kernel
theorem dX9_order_13 : decode cX9_order 13 = .ok (.ifCond .eq 7, 3) := by decide +kernel
theorem dX9_order_16 : decode cX9_order 16 = .ok (.iload_n 3, 1) := by decide +kernel
theorem dX9_order_17 : decode cX9_order 17 = .ok (.ifCond .ge 5, 3) := by decide +kernel
theorem dX9_order_20 : decode cX9_order 20 = .ok (.iconst (-1), 1) := by decide +kernel
theorem dX9_order_21 : decode cX9_order 21 = .ok (.ireturn, 1) := by decide +kernel
theorem dX9_order_22 : decode cX9_order 22 = .ok (.aload_n 0, 1) := by decide +kernel
theorem dX9_order_23 : decode cX9_order 23 = .ok (.invokevirtual 133, 3) := by decide +kernel
theorem dX9_order_26 : decode cX9_order 26 = .ok (.ifCond .ne 6, 3) := by decide +kernel
theorem dX9_order_29 : decode cX9_order 29 = .ok (.bipush (-5), 2) := by decide +kernel
theorem dX9_order_31 : decode cX9_order 31 = .ok (.ireturn, 1) := by decide +kernel
theorem dX9_order_32 : decode cX9_order 32 = .ok (.iconst 0, 1) := by decide +kernel
theorem dX9_order_33 : decode cX9_order 33 = .ok (.istore 4, 2) := by decide +kernel
theorem dX9_order_35 : decode cX9_order 35 = .ok (.iload 4, 2) := by decide +kernel
theorem dX9_order_37 : decode cX9_order 37 = .ok (.aload_n 0, 1) := by decide +kernel
theorem dX9_order_38 : decode cX9_order 38 = .ok (.getfield 32, 3) := by decide +kernel
theorem dX9_order_41 : decode cX9_order 41 = .ok (.iload_n 1, 1) := by decide +kernel
theorem dX9_order_42 : decode cX9_order 42 = .ok (.iaload, 1) := by decide +kernel
theorem dX9_order_43 : decode cX9_order 43 = .ok (.if_icmp .ge 31, 3) := by decide +kernel
theorem dX9_order_46 : decode cX9_order 46 = .ok (.aload_n 0, 1) := by decide +kernel
theorem dX9_order_47 : decode cX9_order 47 = .ok (.aload_n 0, 1) := by decide +kernel
theorem dX9_order_48 : decode cX9_order 48 = .ok (.getfield 29, 3) := by decide +kernel
theorem dX9_order_51 : decode cX9_order 51 = .ok (.bipush 34, 2) := by decide +kernel
theorem dX9_order_53 : decode cX9_order 53 = .ok (.iload_n 1, 1) := by decide +kernel
theorem dX9_order_54 : decode cX9_order 54 = .ok (.imul, 1) := by decide +kernel
theorem dX9_order_55 : decode cX9_order 55 = .ok (.iload 4, 2) := by decide +kernel
theorem dX9_order_57 : decode cX9_order 57 = .ok (.iadd, 1) := by decide +kernel
theorem dX9_order_58 : decode cX9_order 58 = .ok (.iaload, 1) := by decide +kernel
theorem dX9_order_59 : decode cX9_order 59 = .ok (.invokevirtual 235, 3) := by decide +kernel
theorem dX9_order_62 : decode cX9_order 62 = .ok (.ifCond .ne 6, 3) := by decide +kernel
theorem dX9_order_65 : decode cX9_order 65 = .ok (.bipush (-6), 2) := by decide +kernel
theorem dX9_order_67 : decode cX9_order 67 = .ok (.ireturn, 1) := by decide +kernel
theorem dX9_order_68 : decode cX9_order 68 = .ok (.iinc 4 1, 3) := by decide +kernel
theorem dX9_order_71 : decode cX9_order 71 = .ok (.goto (-36), 3) := by decide +kernel
theorem dX9_order_74 : decode cX9_order 74 = .ok (.iconst 0, 1) := by decide +kernel
theorem dX9_order_75 : decode cX9_order 75 = .ok (.istore 4, 2) := by decide +kernel
theorem dX9_order_77 : decode cX9_order 77 = .ok (.iload 4, 2) := by decide +kernel
theorem dX9_order_79 : decode cX9_order 79 = .ok (.iload_n 3, 1) := by decide +kernel
theorem dX9_order_80 : decode cX9_order 80 = .ok (.if_icmp .ge 63, 3) := by decide +kernel
theorem dX9_order_83 : decode cX9_order 83 = .ok (.aload_n 0, 1) := by decide +kernel
theorem dX9_order_84 : decode cX9_order 84 = .ok (.iload 4, 2) := by decide +kernel
theorem dX9_order_86 : decode cX9_order 86 = .ok (.iload_n 2, 1) := by decide +kernel
theorem dX9_order_87 : decode cX9_order 87 = .ok (.invokevirtual 229, 3) := by decide +kernel
theorem dX9_order_90 : decode cX9_order 90 = .ok (.iconst 0, 1) := by decide +kernel
theorem dX9_order_91 : decode cX9_order 91 = .ok (.istore 5, 2) := by decide +kernel
theorem dX9_order_93 : decode cX9_order 93 = .ok (.iload 5, 2) := by decide +kernel
theorem dX9_order_95 : decode cX9_order 95 = .ok (.aload_n 0, 1) := by decide +kernel
theorem dX9_order_96 : decode cX9_order 96 = .ok (.getfield 32, 3) := by decide +kernel
theorem dX9_order_99 : decode cX9_order 99 = .ok (.iload_n 1, 1) := by decide +kernel
theorem dX9_order_100 : decode cX9_order 100 = .ok (.iaload, 1) := by decide +kernel
theorem dX9_order_101 : decode cX9_order 101 = .ok (.if_icmp .ge 25, 3) := by decide +kernel
theorem dX9_order_104 : decode cX9_order 104 = .ok (.aload_n 0, 1) := by decide +kernel
theorem dX9_order_105 : decode cX9_order 105 = .ok (.aload_n 0, 1) := by decide +kernel
theorem dX9_order_106 : decode cX9_order 106 = .ok (.getfield 29, 3) := by decide +kernel
theorem dX9_order_109 : decode cX9_order 109 = .ok (.bipush 34, 2) := by decide +kernel
theorem dX9_order_111 : decode cX9_order 111 = .ok (.iload_n 1, 1) := by decide +kernel
theorem dX9_order_112 : decode cX9_order 112 = .ok (.imul, 1) := by decide +kernel
theorem dX9_order_113 : decode cX9_order 113 = .ok (.iload 5, 2) := by decide +kernel
theorem dX9_order_115 : decode cX9_order 115 = .ok (.iadd, 1) := by decide +kernel
theorem dX9_order_116 : decode cX9_order 116 = .ok (.iaload, 1) := by decide +kernel
theorem dX9_order_117 : decode cX9_order 117 = .ok (.invokevirtual 163, 3) := by decide +kernel
theorem dX9_order_120 : decode cX9_order 120 = .ok (.iinc 5 1, 3) := by decide +kernel
theorem dX9_order_123 : decode cX9_order 123 = .ok (.goto (-30), 3) := by decide +kernel
theorem dX9_order_126 : decode cX9_order 126 = .ok (.aload_n 0, 1) := by decide +kernel
theorem dX9_order_127 : decode cX9_order 127 = .ok (.getfield 72, 3) := by decide +kernel
theorem dX9_order_130 : decode cX9_order 130 = .ok (.iload 4, 2) := by decide +kernel
theorem dX9_order_132 : decode cX9_order 132 = .ok (.aload_n 0, 1) := by decide +kernel
theorem dX9_order_133 : decode cX9_order 133 = .ok (.invokevirtual 232, 3) := by decide +kernel
theorem dX9_order_136 : decode cX9_order 136 = .ok (.iastore, 1) := by decide +kernel
theorem dX9_order_137 : decode cX9_order 137 = .ok (.iinc 4 1, 3) := by decide +kernel
theorem dX9_order_140 : decode cX9_order 140 = .ok (.goto (-63), 3) := by decide +kernel
theorem dX9_order_143 : decode cX9_order 143 = .ok (.lconst 1, 1) := by decide +kernel
theorem dX9_order_144 : decode cX9_order 144 = .ok (.lstore 4, 2) := by decide +kernel
theorem dX9_order_146 : decode cX9_order 146 = .ok (.iconst 0, 1) := by decide +kernel
theorem dX9_order_147 : decode cX9_order 147 = .ok (.istore 6, 2) := by decide +kernel
theorem dX9_order_149 : decode cX9_order 149 = .ok (.iload 6, 2) := by decide +kernel
theorem dX9_order_151 : decode cX9_order 151 = .ok (.iload_n 3, 1) := by decide +kernel
theorem dX9_order_152 : decode cX9_order 152 = .ok (.if_icmp .ge 73, 3) := by decide +kernel
theorem dX9_order_155 : decode cX9_order 155 = .ok (.lconst 1, 1) := by decide +kernel
theorem dX9_order_156 : decode cX9_order 156 = .ok (.lstore 7, 2) := by decide +kernel
theorem dX9_order_158 : decode cX9_order 158 = .ok (.aload_n 0, 1) := by decide +kernel
theorem dX9_order_159 : decode cX9_order 159 = .ok (.getfield 72, 3) := by decide +kernel
theorem dX9_order_162 : decode cX9_order 162 = .ok (.iload 6, 2) := by decide +kernel
theorem dX9_order_164 : decode cX9_order 164 = .ok (.iaload, 1) := by decide +kernel
theorem dX9_order_165 : decode cX9_order 165 = .ok (.istore 9, 2) := by decide +kernel
theorem dX9_order_167 : decode cX9_order 167 = .ok (.iload 9, 2) := by decide +kernel
theorem dX9_order_169 : decode cX9_order 169 = .ok (.iload 6, 2) := by decide +kernel
theorem dX9_order_171 : decode cX9_order 171 = .ok (.if_icmp .eq 21, 3) := by decide +kernel
theorem dX9_order_174 : decode cX9_order 174 = .ok (.lload 7, 2) := by decide +kernel
theorem dX9_order_176 : decode cX9_order 176 = .ok (.lconst 1, 1) := by decide +kernel
theorem dX9_order_177 : decode cX9_order 177 = .ok (.ladd, 1) := by decide +kernel
theorem dX9_order_178 : decode cX9_order 178 = .ok (.lstore 7, 2) := by decide +kernel
theorem dX9_order_180 : decode cX9_order 180 = .ok (.aload_n 0, 1) := by decide +kernel
theorem dX9_order_181 : decode cX9_order 181 = .ok (.getfield 72, 3) := by decide +kernel
end
section
theorem dX9_order_184 : decode cX9_order 184 = .ok (.iload 9, 2) := by decide +kernel
theorem dX9_order_186 : decode cX9_order 186 = .ok (.iaload, 1) := by decide +kernel
theorem dX9_order_187 : decode cX9_order 187 = .ok (.istore 9, 2) := by decide +kernel
theorem dX9_order_189 : decode cX9_order 189 = .ok (.goto (-22), 3) := by decide +kernel
theorem dX9_order_192 : decode cX9_order 192 = .ok (.lload 4, 2) := by decide +kernel
theorem dX9_order_194 : decode cX9_order 194 = .ok (.lload 4, 2) := by decide +kernel
theorem dX9_order_196 : decode cX9_order 196 = .ok (.lload 7, 2) := by decide +kernel
theorem dX9_order_198 : decode cX9_order 198 = .ok (.invokestatic 238, 3) := by decide +kernel
theorem dX9_order_201 : decode cX9_order 201 = .ok (.ldiv, 1) := by decide +kernel
theorem dX9_order_202 : decode cX9_order 202 = .ok (.lload 7, 2) := by decide +kernel
theorem dX9_order_204 : decode cX9_order 204 = .ok (.lmul, 1) := by decide +kernel
theorem dX9_order_205 : decode cX9_order 205 = .ok (.lstore 4, 2) := by decide +kernel
theorem dX9_order_207 : decode cX9_order 207 = .ok (.lload 4, 2) := by decide +kernel
theorem dX9_order_209 : decode cX9_order 209 = .ok (.ldc2_w 242, 3) := by decide +kernel
theorem dX9_order_212 : decode cX9_order 212 = .ok (.lcmp, 1) := by decide +kernel
theorem dX9_order_213 : decode cX9_order 213 = .ok (.ifCond .le 6, 3) := by decide +kernel
theorem dX9_order_216 : decode cX9_order 216 = .ok (.bipush (-7), 2) := by decide +kernel
theorem dX9_order_218 : decode cX9_order 218 = .ok (.ireturn, 1) := by decide +kernel
theorem dX9_order_219 : decode cX9_order 219 = .ok (.iinc 6 1, 3) := by decide +kernel
theorem dX9_order_222 : decode cX9_order 222 = .ok (.goto (-73), 3) := by decide +kernel
theorem dX9_order_225 : decode cX9_order 225 = .ok (.lload 4, 2) := by decide +kernel
theorem dX9_order_227 : decode cX9_order 227 = .ok (.l2i, 1) := by decide +kernel
theorem dX9_order_228 : decode cX9_order 228 = .ok (.ireturn, 1) := by decide +kernel
theorem dX9_orbits_0 : decode cX9_orbits 0 = .ok (.aload_n 0, 1) := by decide +kernel
theorem dX9_orbits_1 : decode cX9_orbits 1 = .ok (.iload_n 1, 1) := by decide +kernel
theorem dX9_orbits_2 : decode cX9_orbits 2 = .ok (.sipush 256, 3) := by decide +kernel
theorem dX9_orbits_5 : decode cX9_orbits 5 = .ok (.invokevirtual 223, 3) := by decide +kernel
theorem dX9_orbits_8 : decode cX9_orbits 8 = .ok (.ifCond .ge 5, 3) := by decide +kernel
theorem dX9_orbits_11 : decode cX9_orbits 11 = .ok (.iconst (-1), 1) := by decide +kernel
theorem dX9_orbits_12 : decode cX9_orbits 12 = .ok (.ireturn, 1) := by decide +kernel
theorem dX9_orbits_13 : decode cX9_orbits 13 = .ok (.aload_n 0, 1) := by decide +kernel
theorem dX9_orbits_14 : decode cX9_orbits 14 = .ok (.invokevirtual 133, 3) := by decide +kernel
theorem dX9_orbits_17 : decode cX9_orbits 17 = .ok (.ifCond .ne 6, 3) := by decide +kernel
theorem dX9_orbits_20 : decode cX9_orbits 20 = .ok (.bipush (-5), 2) := by decide +kernel
theorem dX9_orbits_22 : decode cX9_orbits 22 = .ok (.ireturn, 1) := by decide +kernel
theorem dX9_orbits_23 : decode cX9_orbits 23 = .ok (.aload_n 0, 1) := by decide +kernel
theorem dX9_orbits_24 : decode cX9_orbits 24 = .ok (.iload_n 1, 1) := by decide +kernel
theorem dX9_orbits_25 : decode cX9_orbits 25 = .ok (.invokevirtual 244, 3) := by decide +kernel
theorem dX9_orbits_28 : decode cX9_orbits 28 = .ok (.iconst 0, 1) := by decide +kernel
theorem dX9_orbits_29 : decode cX9_orbits 29 = .ok (.istore_n 2, 1) := by decide +kernel
theorem dX9_orbits_30 : decode cX9_orbits 30 = .ok (.iload_n 2, 1) := by decide +kernel
theorem dX9_orbits_31 : decode cX9_orbits 31 = .ok (.aload_n 0, 1) := by decide +kernel
theorem dX9_orbits_32 : decode cX9_orbits 32 = .ok (.getfield 226, 3) := by decide +kernel
theorem dX9_orbits_35 : decode cX9_orbits 35 = .ok (.if_icmp .ge 16, 3) := by decide +kernel
theorem dX9_orbits_38 : decode cX9_orbits 38 = .ok (.aload_n 0, 1) := by decide +kernel
theorem dX9_orbits_39 : decode cX9_orbits 39 = .ok (.getfield 75, 3) := by decide +kernel
theorem dX9_orbits_42 : decode cX9_orbits 42 = .ok (.iload_n 2, 1) := by decide +kernel
theorem dX9_orbits_43 : decode cX9_orbits 43 = .ok (.iload_n 2, 1) := by decide +kernel
theorem dX9_orbits_44 : decode cX9_orbits 44 = .ok (.iastore, 1) := by decide +kernel
theorem dX9_orbits_45 : decode cX9_orbits 45 = .ok (.iinc 2 1, 3) := by decide +kernel
theorem dX9_orbits_48 : decode cX9_orbits 48 = .ok (.goto (-18), 3) := by decide +kernel
theorem dX9_orbits_51 : decode cX9_orbits 51 = .ok (.iconst 1, 1) := by decide +kernel
theorem dX9_orbits_52 : decode cX9_orbits 52 = .ok (.istore_n 2, 1) := by decide +kernel
theorem dX9_orbits_53 : decode cX9_orbits 53 = .ok (.iload_n 2, 1) := by decide +kernel
theorem dX9_orbits_54 : decode cX9_orbits 54 = .ok (.ifCond .eq 159, 3) := by decide +kernel
theorem dX9_orbits_57 : decode cX9_orbits 57 = .ok (.iconst 0, 1) := by decide +kernel
theorem dX9_orbits_58 : decode cX9_orbits 58 = .ok (.istore_n 2, 1) := by decide +kernel
theorem dX9_orbits_59 : decode cX9_orbits 59 = .ok (.iconst 0, 1) := by decide +kernel
theorem dX9_orbits_60 : decode cX9_orbits 60 = .ok (.istore_n 3, 1) := by decide +kernel
theorem dX9_orbits_61 : decode cX9_orbits 61 = .ok (.iload_n 3, 1) := by decide +kernel
theorem dX9_orbits_62 : decode cX9_orbits 62 = .ok (.aload_n 0, 1) := by decide +kernel
theorem dX9_orbits_63 : decode cX9_orbits 63 = .ok (.getfield 127, 3) := by decide +kernel
theorem dX9_orbits_66 : decode cX9_orbits 66 = .ok (.if_icmp .ge 144, 3) := by decide +kernel
theorem dX9_orbits_69 : decode cX9_orbits 69 = .ok (.iconst 0, 1) := by decide +kernel
theorem dX9_orbits_70 : decode cX9_orbits 70 = .ok (.istore 4, 2) := by decide +kernel
theorem dX9_orbits_72 : decode cX9_orbits 72 = .ok (.iload 4, 2) := by decide +kernel
theorem dX9_orbits_74 : decode cX9_orbits 74 = .ok (.aload_n 0, 1) := by decide +kernel
theorem dX9_orbits_75 : decode cX9_orbits 75 = .ok (.getfield 226, 3) := by decide +kernel
theorem dX9_orbits_78 : decode cX9_orbits 78 = .ok (.if_icmp .ge 126, 3) := by decide +kernel
theorem dX9_orbits_81 : decode cX9_orbits 81 = .ok (.aload_n 0, 1) := by decide +kernel
theorem dX9_orbits_82 : decode cX9_orbits 82 = .ok (.aload_n 0, 1) := by decide +kernel
theorem dX9_orbits_83 : decode cX9_orbits 83 = .ok (.getfield 39, 3) := by decide +kernel
theorem dX9_orbits_86 : decode cX9_orbits 86 = .ok (.iload_n 3, 1) := by decide +kernel
theorem dX9_orbits_87 : decode cX9_orbits 87 = .ok (.iaload, 1) := by decide +kernel
theorem dX9_orbits_88 : decode cX9_orbits 88 = .ok (.invokevirtual 235, 3) := by decide +kernel
theorem dX9_orbits_91 : decode cX9_orbits 91 = .ok (.ifCond .eq 113, 3) := by decide +kernel
theorem dX9_orbits_94 : decode cX9_orbits 94 = .ok (.aload_n 0, 1) := by decide +kernel
theorem dX9_orbits_95 : decode cX9_orbits 95 = .ok (.getfield 75, 3) := by decide +kernel
theorem dX9_orbits_98 : decode cX9_orbits 98 = .ok (.iload 4, 2) := by decide +kernel
theorem dX9_orbits_100 : decode cX9_orbits 100 = .ok (.iaload, 1) := by decide +kernel
theorem dX9_orbits_101 : decode cX9_orbits 101 = .ok (.aload_n 0, 1) := by decide +kernel
theorem dX9_orbits_102 : decode cX9_orbits 102 = .ok (.getfield 75, 3) := by decide +kernel
theorem dX9_orbits_105 : decode cX9_orbits 105 = .ok (.aload_n 0, 1) := by decide +kernel
theorem dX9_orbits_106 : decode cX9_orbits 106 = .ok (.getfield 69, 3) := by decide +kernel
theorem dX9_orbits_109 : decode cX9_orbits 109 = .ok (.sipush 256, 3) := by decide +kernel
theorem dX9_orbits_112 : decode cX9_orbits 112 = .ok (.iload_n 3, 1) := by decide +kernel
theorem dX9_orbits_113 : decode cX9_orbits 113 = .ok (.imul, 1) := by decide +kernel
theorem dX9_orbits_114 : decode cX9_orbits 114 = .ok (.iload 4, 2) := by decide +kernel
theorem dX9_orbits_116 : decode cX9_orbits 116 = .ok (.iadd, 1) := by decide +kernel
theorem dX9_orbits_117 : decode cX9_orbits 117 = .ok (.iaload, 1) := by decide +kernel
theorem dX9_orbits_118 : decode cX9_orbits 118 = .ok (.iaload, 1) := by decide +kernel
theorem dX9_orbits_119 : decode cX9_orbits 119 = .ok (.invokestatic 247, 3) := by decide +kernel
theorem dX9_orbits_122 : decode cX9_orbits 122 = .ok (.istore 5, 2) := by decide +kernel
theorem dX9_orbits_124 : decode cX9_orbits 124 = .ok (.iload_n 2, 1) := by decide +kernel
theorem dX9_orbits_125 : decode cX9_orbits 125 = .ok (.ifCond .ne 38, 3) := by decide +kernel
theorem dX9_orbits_128 : decode cX9_orbits 128 = .ok (.aload_n 0, 1) := by decide +kernel
theorem dX9_orbits_129 : decode cX9_orbits 129 = .ok (.getfield 75, 3) := by decide +kernel
theorem dX9_orbits_132 : decode cX9_orbits 132 = .ok (.iload 4, 2) := by decide +kernel
theorem dX9_orbits_134 : decode cX9_orbits 134 = .ok (.iaload, 1) := by decide +kernel
theorem dX9_orbits_135 : decode cX9_orbits 135 = .ok (.iload 5, 2) := by decide +kernel
theorem dX9_orbits_137 : decode cX9_orbits 137 = .ok (.if_icmp .ne 26, 3) := by decide +kernel
theorem dX9_orbits_140 : decode cX9_orbits 140 = .ok (.aload_n 0, 1) := by decide +kernel
theorem dX9_orbits_141 : decode cX9_orbits 141 = .ok (.getfield 75, 3) := by decide +kernel
theorem dX9_orbits_144 : decode cX9_orbits 144 = .ok (.aload_n 0, 1) := by decide +kernel
theorem dX9_orbits_145 : decode cX9_orbits 145 = .ok (.getfield 69, 3) := by decide +kernel
theorem dX9_orbits_148 : decode cX9_orbits 148 = .ok (.sipush 256, 3) := by decide +kernel
theorem dX9_orbits_151 : decode cX9_orbits 151 = .ok (.iload_n 3, 1) := by decide +kernel
theorem dX9_orbits_152 : decode cX9_orbits 152 = .ok (.imul, 1) := by decide +kernel
theorem dX9_orbits_153 : decode cX9_orbits 153 = .ok (.iload 4, 2) := by decide +kernel
theorem dX9_orbits_155 : decode cX9_orbits 155 = .ok (.iadd, 1) := by decide +kernel
theorem dX9_orbits_156 : decode cX9_orbits 156 = .ok (.iaload, 1) := by decide +kernel
theorem dX9_orbits_157 : decode cX9_orbits 157 = .ok (.iaload, 1) := by decide +kernel
theorem dX9_orbits_158 : decode cX9_orbits 158 = .ok (.iload 5, 2) := by decide +kernel
theorem dX9_orbits_160 : decode cX9_orbits 160 = .ok (.if_icmp .eq 7, 3) := by decide +kernel
theorem dX9_orbits_163 : decode cX9_orbits 163 = .ok (.iconst 1, 1) := by decide +kernel
theorem dX9_orbits_164 : decode cX9_orbits 164 = .ok (.goto 4, 3) := by decide +kernel
theorem dX9_orbits_167 : decode cX9_orbits 167 = .ok (.iconst 0, 1) := by decide +kernel
theorem dX9_orbits_168 : decode cX9_orbits 168 = .ok (.istore_n 2, 1) := by decide +kernel
theorem dX9_orbits_169 : decode cX9_orbits 169 = .ok (.aload_n 0, 1) := by decide +kernel
theorem dX9_orbits_170 : decode cX9_orbits 170 = .ok (.getfield 75, 3) := by decide +kernel
theorem dX9_orbits_173 : decode cX9_orbits 173 = .ok (.iload 4, 2) := by decide +kernel
theorem dX9_orbits_175 : decode cX9_orbits 175 = .ok (.iload 5, 2) := by decide +kernel
theorem dX9_orbits_177 : decode cX9_orbits 177 = .ok (.iastore, 1) := by decide +kernel
theorem dX9_orbits_178 : decode cX9_orbits 178 = .ok (.aload_n 0, 1) := by decide +kernel
theorem dX9_orbits_179 : decode cX9_orbits 179 = .ok (.getfield 75, 3) := by decide +kernel
theorem dX9_orbits_182 : decode cX9_orbits 182 = .ok (.aload_n 0, 1) := by decide +kernel
theorem dX9_orbits_183 : decode cX9_orbits 183 = .ok (.getfield 69, 3) := by decide +kernel
theorem dX9_orbits_186 : decode cX9_orbits 186 = .ok (.sipush 256, 3) := by decide +kernel
theorem dX9_orbits_189 : decode cX9_orbits 189 = .ok (.iload_n 3, 1) := by decide +kernel
theorem dX9_orbits_190 : decode cX9_orbits 190 = .ok (.imul, 1) := by decide +kernel
theorem dX9_orbits_191 : decode cX9_orbits 191 = .ok (.iload 4, 2) := by decide +kernel
theorem dX9_orbits_193 : decode cX9_orbits 193 = .ok (.iadd, 1) := by decide +kernel
theorem dX9_orbits_194 : decode cX9_orbits 194 = .ok (.iaload, 1) := by decide +kernel
theorem dX9_orbits_195 : decode cX9_orbits 195 = .ok (.iload 5, 2) := by decide +kernel
theorem dX9_orbits_197 : decode cX9_orbits 197 = .ok (.iastore, 1) := by decide +kernel
theorem dX9_orbits_198 : decode cX9_orbits 198 = .ok (.iinc 4 1, 3) := by decide +kernel
theorem dX9_orbits_201 : decode cX9_orbits 201 = .ok (.goto (-129), 3) := by decide +kernel
theorem dX9_orbits_204 : decode cX9_orbits 204 = .ok (.iinc 3 1, 3) := by decide +kernel
theorem dX9_orbits_207 : decode cX9_orbits 207 = .ok (.goto (-146), 3) := by decide +kernel
theorem dX9_orbits_210 : decode cX9_orbits 210 = .ok (.goto (-157), 3) := by decide +kernel
theorem dX9_orbits_213 : decode cX9_orbits 213 = .ok (.iconst 0, 1) := by decide +kernel
theorem dX9_orbits_214 : decode cX9_orbits 214 = .ok (.istore_n 3, 1) := by decide +kernel
theorem dX9_orbits_215 : decode cX9_orbits 215 = .ok (.iconst 0, 1) := by decide +kernel
theorem dX9_orbits_216 : decode cX9_orbits 216 = .ok (.istore 4, 2) := by decide +kernel
theorem dX9_orbits_218 : decode cX9_orbits 218 = .ok (.iload 4, 2) := by decide +kernel
theorem dX9_orbits_220 : decode cX9_orbits 220 = .ok (.aload_n 0, 1) := by decide +kernel
theorem dX9_orbits_221 : decode cX9_orbits 221 = .ok (.getfield 226, 3) := by decide +kernel
theorem dX9_orbits_224 : decode cX9_orbits 224 = .ok (.if_icmp .ge 29, 3) := by decide +kernel
theorem dX9_orbits_227 : decode cX9_orbits 227 = .ok (.iload_n 3, 1) := by decide +kernel
theorem dX9_orbits_228 : decode cX9_orbits 228 = .ok (.aload_n 0, 1) := by decide +kernel
theorem dX9_orbits_229 : decode cX9_orbits 229 = .ok (.getfield 75, 3) := by decide +kernel
theorem dX9_orbits_232 : decode cX9_orbits 232 = .ok (.iload 4, 2) := by decide +kernel
theorem dX9_orbits_234 : decode cX9_orbits 234 = .ok (.iaload, 1) := by decide +kernel
theorem dX9_orbits_235 : decode cX9_orbits 235 = .ok (.iload 4, 2) := by decide +kernel
theorem dX9_orbits_237 : decode cX9_orbits 237 = .ok (.if_icmp .ne 7, 3) := by decide +kernel
theorem dX9_orbits_240 : decode cX9_orbits 240 = .ok (.iconst 1, 1) := by decide +kernel
theorem dX9_orbits_241 : decode cX9_orbits 241 = .ok (.goto 4, 3) := by decide +kernel
theorem dX9_orbits_244 : decode cX9_orbits 244 = .ok (.iconst 0, 1) := by decide +kernel
theorem dX9_orbits_245 : decode cX9_orbits 245 = .ok (.iadd, 1) := by decide +kernel
theorem dX9_orbits_246 : decode cX9_orbits 246 = .ok (.istore_n 3, 1) := by decide +kernel
theorem dX9_orbits_247 : decode cX9_orbits 247 = .ok (.iinc 4 1, 3) := by decide +kernel
theorem dX9_orbits_250 : decode cX9_orbits 250 = .ok (.goto (-32), 3) := by decide +kernel
theorem dX9_orbits_253 : decode cX9_orbits 253 = .ok (.iload_n 3, 1) := by decide +kernel
theorem dX9_orbits_254 : decode cX9_orbits 254 = .ok (.ireturn, 1) := by decide +kernel
theorem dX9_takeLevel_0 : decode cX9_takeLevel 0 = .ok (.aload_n 0, 1) := by decide +kernel
theorem dX9_takeLevel_1 : decode cX9_takeLevel 1 = .ok (.iload_n 1, 1) := by decide +kernel
theorem dX9_takeLevel_2 : decode cX9_takeLevel 2 = .ok (.bipush 10, 2) := by decide +kernel
theorem dX9_takeLevel_4 : decode cX9_takeLevel 4 = .ok (.invokevirtual 159, 3) := by decide +kernel
theorem dX9_takeLevel_7 : decode cX9_takeLevel 7 = .ok (.ifCond .eq 17, 3) := by decide +kernel
theorem dX9_takeLevel_10 : decode cX9_takeLevel 10 = .ok (.aload_n 0, 1) := by decide +kernel
theorem dX9_takeLevel_11 : decode cX9_takeLevel 11 = .ok (.aload_n 0, 1) := by decide +kernel
theorem dX9_takeLevel_12 : decode cX9_takeLevel 12 = .ok (.getfield 156, 3) := by decide +kernel
theorem dX9_takeLevel_15 : decode cX9_takeLevel 15 = .ok (.sipush 256, 3) := by decide +kernel
theorem dX9_takeLevel_18 : decode cX9_takeLevel 18 = .ok (.invokevirtual 223, 3) := by decide +kernel
theorem dX9_takeLevel_21 : decode cX9_takeLevel 21 = .ok (.ifCond .ge 5, 3) := by decide +kernel
theorem dX9_takeLevel_24 : decode cX9_takeLevel 24 = .ok (.iconst (-1), 1) := by decide +kernel
theorem dX9_takeLevel_25 : decode cX9_takeLevel 25 = .ok (.ireturn, 1) := by decide +kernel
theorem dX9_takeLevel_26 : decode cX9_takeLevel 26 = .ok (.aload_n 0, 1) := by decide +kernel
theorem dX9_takeLevel_27 : decode cX9_takeLevel 27 = .ok (.invokevirtual 133, 3) := by decide +kernel
theorem dX9_takeLevel_30 : decode cX9_takeLevel 30 = .ok (.ifCond .ne 6, 3) := by decide +kernel
theorem dX9_takeLevel_33 : decode cX9_takeLevel 33 = .ok (.bipush (-5), 2) := by decide +kernel
theorem dX9_takeLevel_35 : decode cX9_takeLevel 35 = .ok (.ireturn, 1) := by decide +kernel
theorem dX9_takeLevel_36 : decode cX9_takeLevel 36 = .ok (.aload_n 0, 1) := by decide +kernel
theorem dX9_takeLevel_37 : decode cX9_takeLevel 37 = .ok (.aload_n 0, 1) := by decide +kernel
theorem dX9_takeLevel_38 : decode cX9_takeLevel 38 = .ok (.invokevirtual 232, 3) := by decide +kernel
theorem dX9_takeLevel_41 : decode cX9_takeLevel 41 = .ok (.putfield 252, 3) := by decide +kernel
theorem dX9_takeLevel_44 : decode cX9_takeLevel 44 = .ok (.aload_n 0, 1) := by decide +kernel
theorem dX9_takeLevel_45 : decode cX9_takeLevel 45 = .ok (.aload_n 0, 1) := by decide +kernel
theorem dX9_takeLevel_46 : decode cX9_takeLevel 46 = .ok (.getfield 156, 3) := by decide +kernel
theorem dX9_takeLevel_49 : decode cX9_takeLevel 49 = .ok (.invokevirtual 244, 3) := by decide +kernel
theorem dX9_takeLevel_52 : decode cX9_takeLevel 52 = .ok (.iconst 0, 1) := by decide +kernel
theorem dX9_takeLevel_53 : decode cX9_takeLevel 53 = .ok (.ireturn, 1) := by decide +kernel
theorem dX9_findFar_0 : decode cX9_findFar 0 = .ok (.iconst 0, 1) := by decide +kernel
theorem dX9_findFar_1 : decode cX9_findFar 1 = .ok (.istore_n 2, 1) := by decide +kernel
theorem dX9_findFar_2 : decode cX9_findFar 2 = .ok (.iload_n 2, 1) := by decide +kernel
theorem dX9_findFar_3 : decode cX9_findFar 3 = .ok (.aload_n 0, 1) := by decide +kernel
theorem dX9_findFar_4 : decode cX9_findFar 4 = .ok (.getfield 226, 3) := by decide +kernel
theorem dX9_findFar_7 : decode cX9_findFar 7 = .ok (.if_icmp .ge 25, 3) := by decide +kernel
theorem dX9_findFar_10 : decode cX9_findFar 10 = .ok (.aload_n 0, 1) := by decide +kernel
theorem dX9_findFar_11 : decode cX9_findFar 11 = .ok (.getfield 78, 3) := by decide +kernel
theorem dX9_findFar_14 : decode cX9_findFar 14 = .ok (.iload_n 2, 1) := by decide +kernel
theorem dX9_findFar_15 : decode cX9_findFar 15 = .ok (.iload_n 2, 1) := by decide +kernel
theorem dX9_findFar_16 : decode cX9_findFar 16 = .ok (.iload_n 1, 1) := by decide +kernel
theorem dX9_findFar_17 : decode cX9_findFar 17 = .ok (.if_icmp .ne 7, 3) := by decide +kernel
theorem dX9_findFar_20 : decode cX9_findFar 20 = .ok (.iconst 0, 1) := by decide +kernel
theorem dX9_findFar_21 : decode cX9_findFar 21 = .ok (.goto 4, 3) := by decide +kernel
theorem dX9_findFar_24 : decode cX9_findFar 24 = .ok (.iconst (-1), 1) := by decide +kernel
theorem dX9_findFar_25 : decode cX9_findFar 25 = .ok (.iastore, 1) := by decide +kernel
theorem dX9_findFar_26 : decode cX9_findFar 26 = .ok (.iinc 2 1, 3) := by decide +kernel
theorem dX9_findFar_29 : decode cX9_findFar 29 = .ok (.goto (-27), 3) := by decide +kernel
theorem dX9_findFar_32 : decode cX9_findFar 32 = .ok (.iconst 0, 1) := by decide +kernel
theorem dX9_findFar_33 : decode cX9_findFar 33 = .ok (.istore_n 2, 1) := by decide +kernel
theorem dX9_findFar_34 : decode cX9_findFar 34 = .ok (.iload_n 2, 1) := by decide +kernel
theorem dX9_findFar_35 : decode cX9_findFar 35 = .ok (.aload_n 0, 1) := by decide +kernel
theorem dX9_findFar_36 : decode cX9_findFar 36 = .ok (.getfield 226, 3) := by decide +kernel
theorem dX9_findFar_39 : decode cX9_findFar 39 = .ok (.if_icmp .ge 98, 3) := by decide +kernel
theorem dX9_findFar_42 : decode cX9_findFar 42 = .ok (.iconst 0, 1) := by decide +kernel
theorem dX9_findFar_43 : decode cX9_findFar 43 = .ok (.istore_n 3, 1) := by decide +kernel
theorem dX9_findFar_44 : decode cX9_findFar 44 = .ok (.iload_n 3, 1) := by decide +kernel
theorem dX9_findFar_45 : decode cX9_findFar 45 = .ok (.aload_n 0, 1) := by decide +kernel
theorem dX9_findFar_46 : decode cX9_findFar 46 = .ok (.getfield 226, 3) := by decide +kernel
theorem dX9_findFar_49 : decode cX9_findFar 49 = .ok (.if_icmp .ge 82, 3) := by decide +kernel
theorem dX9_findFar_52 : decode cX9_findFar 52 = .ok (.iconst 0, 1) := by decide +kernel
theorem dX9_findFar_53 : decode cX9_findFar 53 = .ok (.istore 4, 2) := by decide +kernel
theorem dX9_findFar_55 : decode cX9_findFar 55 = .ok (.iload 4, 2) := by decide +kernel
theorem dX9_findFar_57 : decode cX9_findFar 57 = .ok (.aload_n 0, 1) := by decide +kernel
theorem dX9_findFar_58 : decode cX9_findFar 58 = .ok (.getfield 127, 3) := by decide +kernel
theorem dX9_findFar_61 : decode cX9_findFar 61 = .ok (.if_icmp .ge 64, 3) := by decide +kernel
theorem dX9_findFar_64 : decode cX9_findFar 64 = .ok (.aload_n 0, 1) := by decide +kernel
theorem dX9_findFar_65 : decode cX9_findFar 65 = .ok (.getfield 78, 3) := by decide +kernel
theorem dX9_findFar_68 : decode cX9_findFar 68 = .ok (.iload_n 3, 1) := by decide +kernel
theorem dX9_findFar_69 : decode cX9_findFar 69 = .ok (.iaload, 1) := by decide +kernel
theorem dX9_findFar_70 : decode cX9_findFar 70 = .ok (.iload_n 2, 1) := by decide +kernel
theorem dX9_findFar_71 : decode cX9_findFar 71 = .ok (.if_icmp .ne 54, 3) := by decide +kernel
theorem dX9_findFar_74 : decode cX9_findFar 74 = .ok (.aload_n 0, 1) := by decide +kernel
theorem dX9_findFar_75 : decode cX9_findFar 75 = .ok (.getfield 69, 3) := by decide +kernel
theorem dX9_findFar_78 : decode cX9_findFar 78 = .ok (.sipush 256, 3) := by decide +kernel
theorem dX9_findFar_81 : decode cX9_findFar 81 = .ok (.iload 4, 2) := by decide +kernel
theorem dX9_findFar_83 : decode cX9_findFar 83 = .ok (.imul, 1) := by decide +kernel
theorem dX9_findFar_84 : decode cX9_findFar 84 = .ok (.iload_n 3, 1) := by decide +kernel
theorem dX9_findFar_85 : decode cX9_findFar 85 = .ok (.iadd, 1) := by decide +kernel
theorem dX9_findFar_86 : decode cX9_findFar 86 = .ok (.iaload, 1) := by decide +kernel
theorem dX9_findFar_87 : decode cX9_findFar 87 = .ok (.istore 5, 2) := by decide +kernel
theorem dX9_findFar_89 : decode cX9_findFar 89 = .ok (.aload_n 0, 1) := by decide +kernel
theorem dX9_findFar_90 : decode cX9_findFar 90 = .ok (.getfield 78, 3) := by decide +kernel
theorem dX9_findFar_93 : decode cX9_findFar 93 = .ok (.iload 5, 2) := by decide +kernel
theorem dX9_findFar_95 : decode cX9_findFar 95 = .ok (.aload_n 0, 1) := by decide +kernel
theorem dX9_findFar_96 : decode cX9_findFar 96 = .ok (.getfield 78, 3) := by decide +kernel
theorem dX9_findFar_99 : decode cX9_findFar 99 = .ok (.iload 5, 2) := by decide +kernel
theorem dX9_findFar_101 : decode cX9_findFar 101 = .ok (.iaload, 1) := by decide +kernel
theorem dX9_findFar_102 : decode cX9_findFar 102 = .ok (.ifCond .ge 9, 3) := by decide +kernel
theorem dX9_findFar_105 : decode cX9_findFar 105 = .ok (.iload_n 2, 1) := by decide +kernel
theorem dX9_findFar_106 : decode cX9_findFar 106 = .ok (.iconst 1, 1) := by decide +kernel
theorem dX9_findFar_107 : decode cX9_findFar 107 = .ok (.iadd, 1) := by decide +kernel
theorem dX9_findFar_108 : decode cX9_findFar 108 = .ok (.goto 10, 3) := by decide +kernel
theorem dX9_findFar_111 : decode cX9_findFar 111 = .ok (.aload_n 0, 1) := by decide +kernel
theorem dX9_findFar_112 : decode cX9_findFar 112 = .ok (.getfield 78, 3) := by decide +kernel
theorem dX9_findFar_115 : decode cX9_findFar 115 = .ok (.iload 5, 2) := by decide +kernel
theorem dX9_findFar_117 : decode cX9_findFar 117 = .ok (.iaload, 1) := by decide +kernel
theorem dX9_findFar_118 : decode cX9_findFar 118 = .ok (.iastore, 1) := by decide +kernel
theorem dX9_findFar_119 : decode cX9_findFar 119 = .ok (.iinc 4 1, 3) := by decide +kernel
theorem dX9_findFar_122 : decode cX9_findFar 122 = .ok (.goto (-67), 3) := by decide +kernel
theorem dX9_findFar_125 : decode cX9_findFar 125 = .ok (.iinc 3 1, 3) := by decide +kernel
theorem dX9_findFar_128 : decode cX9_findFar 128 = .ok (.goto (-84), 3) := by decide +kernel
theorem dX9_findFar_131 : decode cX9_findFar 131 = .ok (.iinc 2 1, 3) := by decide +kernel
theorem dX9_findFar_134 : decode cX9_findFar 134 = .ok (.goto (-100), 3) := by decide +kernel
theorem dX9_findFar_137 : decode cX9_findFar 137 = .ok (.return_, 1) := by decide +kernel
theorem dX9_orbit_0 : decode cX9_orbit 0 = .ok (.aload_n 0, 1) := by decide +kernel
theorem dX9_orbit_1 : decode cX9_orbit 1 = .ok (.iload_n 1, 1) := by decide +kernel
theorem dX9_orbit_2 : decode cX9_orbit 2 = .ok (.invokevirtual 255, 3) := by decide +kernel
theorem dX9_orbit_5 : decode cX9_orbit 5 = .ok (.istore_n 2, 1) := by decide +kernel
theorem dX9_orbit_6 : decode cX9_orbit 6 = .ok (.iload_n 2, 1) := by decide +kernel
theorem dX9_orbit_7 : decode cX9_orbit 7 = .ok (.ifCond .eq 5, 3) := by decide +kernel
theorem dX9_orbit_10 : decode cX9_orbit 10 = .ok (.iload_n 2, 1) := by decide +kernel
theorem dX9_orbit_11 : decode cX9_orbit 11 = .ok (.ireturn, 1) := by decide +kernel
theorem dX9_orbit_12 : decode cX9_orbit 12 = .ok (.aload_n 0, 1) := by decide +kernel
theorem dX9_orbit_13 : decode cX9_orbit 13 = .ok (.aload_n 0, 1) := by decide +kernel
theorem dX9_orbit_14 : decode cX9_orbit 14 = .ok (.getfield 252, 3) := by decide +kernel
theorem dX9_orbit_17 : decode cX9_orbit 17 = .ok (.invokevirtual 258, 3) := by decide +kernel
theorem dX9_orbit_20 : decode cX9_orbit 20 = .ok (.iconst 0, 1) := by decide +kernel
theorem dX9_orbit_21 : decode cX9_orbit 21 = .ok (.istore_n 3, 1) := by decide +kernel
theorem dX9_orbit_22 : decode cX9_orbit 22 = .ok (.iconst 0, 1) := by decide +kernel
theorem dX9_orbit_23 : decode cX9_orbit 23 = .ok (.istore 4, 2) := by decide +kernel
theorem dX9_orbit_25 : decode cX9_orbit 25 = .ok (.iload 4, 2) := by decide +kernel
theorem dX9_orbit_27 : decode cX9_orbit 27 = .ok (.aload_n 0, 1) := by decide +kernel
theorem dX9_orbit_28 : decode cX9_orbit 28 = .ok (.getfield 226, 3) := by decide +kernel
theorem dX9_orbit_31 : decode cX9_orbit 31 = .ok (.if_icmp .ge 27, 3) := by decide +kernel
theorem dX9_orbit_34 : decode cX9_orbit 34 = .ok (.iload_n 3, 1) := by decide +kernel
theorem dX9_orbit_35 : decode cX9_orbit 35 = .ok (.aload_n 0, 1) := by decide +kernel
theorem dX9_orbit_36 : decode cX9_orbit 36 = .ok (.getfield 78, 3) := by decide +kernel
theorem dX9_orbit_39 : decode cX9_orbit 39 = .ok (.iload 4, 2) := by decide +kernel
theorem dX9_orbit_41 : decode cX9_orbit 41 = .ok (.iaload, 1) := by decide +kernel
theorem dX9_orbit_42 : decode cX9_orbit 42 = .ok (.ifCond .lt 7, 3) := by decide +kernel
theorem dX9_orbit_45 : decode cX9_orbit 45 = .ok (.iconst 1, 1) := by decide +kernel
theorem dX9_orbit_46 : decode cX9_orbit 46 = .ok (.goto 4, 3) := by decide +kernel
theorem dX9_orbit_49 : decode cX9_orbit 49 = .ok (.iconst 0, 1) := by decide +kernel
theorem dX9_orbit_50 : decode cX9_orbit 50 = .ok (.iadd, 1) := by decide +kernel
theorem dX9_orbit_51 : decode cX9_orbit 51 = .ok (.istore_n 3, 1) := by decide +kernel
theorem dX9_orbit_52 : decode cX9_orbit 52 = .ok (.iinc 4 1, 3) := by decide +kernel
theorem dX9_orbit_55 : decode cX9_orbit 55 = .ok (.goto (-30), 3) := by decide +kernel
theorem dX9_orbit_58 : decode cX9_orbit 58 = .ok (.iload_n 3, 1) := by decide +kernel
theorem dX9_orbit_59 : decode cX9_orbit 59 = .ok (.ireturn, 1) := by decide +kernel
theorem dX9_takeRows_0 : decode cX9_takeRows 0 = .ok (.aload_n 0, 1) := by decide +kernel
theorem dX9_takeRows_1 : decode cX9_takeRows 1 = .ok (.iload_n 1, 1) := by decide +kernel
theorem dX9_takeRows_2 : decode cX9_takeRows 2 = .ok (.bipush 10, 2) := by decide +kernel
theorem dX9_takeRows_4 : decode cX9_takeRows 4 = .ok (.invokevirtual 159, 3) := by decide +kernel
theorem dX9_takeRows_7 : decode cX9_takeRows 7 = .ok (.ifCond .eq 17, 3) := by decide +kernel
theorem dX9_takeRows_10 : decode cX9_takeRows 10 = .ok (.aload_n 0, 1) := by decide +kernel
theorem dX9_takeRows_11 : decode cX9_takeRows 11 = .ok (.aload_n 0, 1) := by decide +kernel
theorem dX9_takeRows_12 : decode cX9_takeRows 12 = .ok (.getfield 156, 3) := by decide +kernel
theorem dX9_takeRows_15 : decode cX9_takeRows 15 = .ok (.sipush 256, 3) := by decide +kernel
theorem dX9_takeRows_18 : decode cX9_takeRows 18 = .ok (.invokevirtual 223, 3) := by decide +kernel
theorem dX9_takeRows_21 : decode cX9_takeRows 21 = .ok (.ifCond .ge 5, 3) := by decide +kernel
theorem dX9_takeRows_24 : decode cX9_takeRows 24 = .ok (.iconst (-1), 1) := by decide +kernel
theorem dX9_takeRows_25 : decode cX9_takeRows 25 = .ok (.ireturn, 1) := by decide +kernel
theorem dX9_takeRows_26 : decode cX9_takeRows 26 = .ok (.aload_n 0, 1) := by decide +kernel
theorem dX9_takeRows_27 : decode cX9_takeRows 27 = .ok (.getfield 156, 3) := by decide +kernel
theorem dX9_takeRows_30 : decode cX9_takeRows 30 = .ok (.istore_n 3, 1) := by decide +kernel
theorem dX9_takeRows_31 : decode cX9_takeRows 31 = .ok (.aload_n 0, 1) := by decide +kernel
theorem dX9_takeRows_32 : decode cX9_takeRows 32 = .ok (.iload_n 2, 1) := by decide +kernel
theorem dX9_takeRows_33 : decode cX9_takeRows 33 = .ok (.bipush 10, 2) := by decide +kernel
theorem dX9_takeRows_35 : decode cX9_takeRows 35 = .ok (.invokevirtual 159, 3) := by decide +kernel
theorem dX9_takeRows_38 : decode cX9_takeRows 38 = .ok (.ifCond .eq 11, 3) := by decide +kernel
theorem dX9_takeRows_41 : decode cX9_takeRows 41 = .ok (.aload_n 0, 1) := by decide +kernel
theorem dX9_takeRows_42 : decode cX9_takeRows 42 = .ok (.getfield 156, 3) := by decide +kernel
theorem dX9_takeRows_45 : decode cX9_takeRows 45 = .ok (.iload_n 3, 1) := by decide +kernel
theorem dX9_takeRows_46 : decode cX9_takeRows 46 = .ok (.if_icmp .eq 5, 3) := by decide +kernel
theorem dX9_takeRows_49 : decode cX9_takeRows 49 = .ok (.iconst (-1), 1) := by decide +kernel
theorem dX9_takeRows_50 : decode cX9_takeRows 50 = .ok (.ireturn, 1) := by decide +kernel
theorem dX9_takeRows_51 : decode cX9_takeRows 51 = .ok (.aload_n 0, 1) := by decide +kernel
theorem dX9_takeRows_52 : decode cX9_takeRows 52 = .ok (.aload_n 0, 1) := by decide +kernel
theorem dX9_takeRows_53 : decode cX9_takeRows 53 = .ok (.invokevirtual 232, 3) := by decide +kernel
theorem dX9_takeRows_56 : decode cX9_takeRows 56 = .ok (.putfield 261, 3) := by decide +kernel
theorem dX9_takeRows_59 : decode cX9_takeRows 59 = .ok (.aload_n 0, 1) := by decide +kernel
theorem dX9_takeRows_60 : decode cX9_takeRows 60 = .ok (.iload_n 1, 1) := by decide +kernel
theorem dX9_takeRows_61 : decode cX9_takeRows 61 = .ok (.invokevirtual 255, 3) := by decide +kernel
theorem dX9_takeRows_64 : decode cX9_takeRows 64 = .ok (.ireturn, 1) := by decide +kernel
theorem dX9_far_0 : decode cX9_far 0 = .ok (.aload_n 0, 1) := by decide +kernel
theorem dX9_far_1 : decode cX9_far 1 = .ok (.iload_n 1, 1) := by decide +kernel
theorem dX9_far_2 : decode cX9_far 2 = .ok (.iload_n 2, 1) := by decide +kernel
theorem dX9_far_3 : decode cX9_far 3 = .ok (.invokevirtual 264, 3) := by decide +kernel
theorem dX9_far_6 : decode cX9_far 6 = .ok (.istore_n 3, 1) := by decide +kernel
theorem dX9_far_7 : decode cX9_far 7 = .ok (.iload_n 3, 1) := by decide +kernel
theorem dX9_far_8 : decode cX9_far 8 = .ok (.ifCond .eq 5, 3) := by decide +kernel
theorem dX9_far_11 : decode cX9_far 11 = .ok (.iload_n 3, 1) := by decide +kernel
theorem dX9_far_12 : decode cX9_far 12 = .ok (.ireturn, 1) := by decide +kernel
theorem dX9_far_13 : decode cX9_far 13 = .ok (.aload_n 0, 1) := by decide +kernel
theorem dX9_far_14 : decode cX9_far 14 = .ok (.aload_n 0, 1) := by decide +kernel
theorem dX9_far_15 : decode cX9_far 15 = .ok (.getfield 252, 3) := by decide +kernel
theorem dX9_far_18 : decode cX9_far 18 = .ok (.invokevirtual 258, 3) := by decide +kernel
theorem dX9_far_21 : decode cX9_far 21 = .ok (.aload_n 0, 1) := by decide +kernel
theorem dX9_far_22 : decode cX9_far 22 = .ok (.getfield 78, 3) := by decide +kernel
theorem dX9_far_25 : decode cX9_far 25 = .ok (.aload_n 0, 1) := by decide +kernel
theorem dX9_far_26 : decode cX9_far 26 = .ok (.getfield 261, 3) := by decide +kernel
theorem dX9_far_29 : decode cX9_far 29 = .ok (.iaload, 1) := by decide +kernel
theorem dX9_far_30 : decode cX9_far 30 = .ok (.ifCond .ge 8, 3) := by decide +kernel
theorem dX9_far_33 : decode cX9_far 33 = .ok (.bipush (-8), 2) := by decide +kernel
theorem dX9_far_35 : decode cX9_far 35 = .ok (.goto 12, 3) := by decide +kernel
theorem dX9_far_38 : decode cX9_far 38 = .ok (.aload_n 0, 1) := by decide +kernel
theorem dX9_far_39 : decode cX9_far 39 = .ok (.getfield 78, 3) := by decide +kernel
theorem dX9_far_42 : decode cX9_far 42 = .ok (.aload_n 0, 1) := by decide +kernel
theorem dX9_far_43 : decode cX9_far 43 = .ok (.getfield 261, 3) := by decide +kernel
theorem dX9_far_46 : decode cX9_far 46 = .ok (.iaload, 1) := by decide +kernel
theorem dX9_far_47 : decode cX9_far 47 = .ok (.ireturn, 1) := by decide +kernel
theorem dX9_findFarTo_0 : decode cX9_findFarTo 0 = .ok (.iconst 0, 1) := by decide +kernel
theorem dX9_findFarTo_1 : decode cX9_findFarTo 1 = .ok (.istore_n 2, 1) := by decide +kernel
theorem dX9_findFarTo_2 : decode cX9_findFarTo 2 = .ok (.iload_n 2, 1) := by decide +kernel
theorem dX9_findFarTo_3 : decode cX9_findFarTo 3 = .ok (.aload_n 0, 1) := by decide +kernel
theorem dX9_findFarTo_4 : decode cX9_findFarTo 4 = .ok (.getfield 226, 3) := by decide +kernel
theorem dX9_findFarTo_7 : decode cX9_findFarTo 7 = .ok (.if_icmp .ge 25, 3) := by decide +kernel
theorem dX9_findFarTo_10 : decode cX9_findFarTo 10 = .ok (.aload_n 0, 1) := by decide +kernel
theorem dX9_findFarTo_11 : decode cX9_findFarTo 11 = .ok (.getfield 81, 3) := by decide +kernel
theorem dX9_findFarTo_14 : decode cX9_findFarTo 14 = .ok (.iload_n 2, 1) := by decide +kernel
theorem dX9_findFarTo_15 : decode cX9_findFarTo 15 = .ok (.iload_n 2, 1) := by decide +kernel
theorem dX9_findFarTo_16 : decode cX9_findFarTo 16 = .ok (.iload_n 1, 1) := by decide +kernel
theorem dX9_findFarTo_17 : decode cX9_findFarTo 17 = .ok (.if_icmp .ne 7, 3) := by decide +kernel
theorem dX9_findFarTo_20 : decode cX9_findFarTo 20 = .ok (.iconst 0, 1) := by decide +kernel
theorem dX9_findFarTo_21 : decode cX9_findFarTo 21 = .ok (.goto 4, 3) := by decide +kernel
theorem dX9_findFarTo_24 : decode cX9_findFarTo 24 = .ok (.iconst (-1), 1) := by decide +kernel
theorem dX9_findFarTo_25 : decode cX9_findFarTo 25 = .ok (.iastore, 1) := by decide +kernel
theorem dX9_findFarTo_26 : decode cX9_findFarTo 26 = .ok (.iinc 2 1, 3) := by decide +kernel
theorem dX9_findFarTo_29 : decode cX9_findFarTo 29 = .ok (.goto (-27), 3) := by decide +kernel
theorem dX9_findFarTo_32 : decode cX9_findFarTo 32 = .ok (.iconst 0, 1) := by decide +kernel
theorem dX9_findFarTo_33 : decode cX9_findFarTo 33 = .ok (.istore_n 2, 1) := by decide +kernel
theorem dX9_findFarTo_34 : decode cX9_findFarTo 34 = .ok (.iload_n 2, 1) := by decide +kernel
theorem dX9_findFarTo_35 : decode cX9_findFarTo 35 = .ok (.aload_n 0, 1) := by decide +kernel
theorem dX9_findFarTo_36 : decode cX9_findFarTo 36 = .ok (.getfield 226, 3) := by decide +kernel
theorem dX9_findFarTo_39 : decode cX9_findFarTo 39 = .ok (.if_icmp .ge 92, 3) := by decide +kernel
theorem dX9_findFarTo_42 : decode cX9_findFarTo 42 = .ok (.iconst 0, 1) := by decide +kernel
theorem dX9_findFarTo_43 : decode cX9_findFarTo 43 = .ok (.istore_n 3, 1) := by decide +kernel
theorem dX9_findFarTo_44 : decode cX9_findFarTo 44 = .ok (.iload_n 3, 1) := by decide +kernel
theorem dX9_findFarTo_45 : decode cX9_findFarTo 45 = .ok (.aload_n 0, 1) := by decide +kernel
theorem dX9_findFarTo_46 : decode cX9_findFarTo 46 = .ok (.getfield 226, 3) := by decide +kernel
theorem dX9_findFarTo_49 : decode cX9_findFarTo 49 = .ok (.if_icmp .ge 76, 3) := by decide +kernel
theorem dX9_findFarTo_52 : decode cX9_findFarTo 52 = .ok (.iconst 0, 1) := by decide +kernel
theorem dX9_findFarTo_53 : decode cX9_findFarTo 53 = .ok (.istore 4, 2) := by decide +kernel
theorem dX9_findFarTo_55 : decode cX9_findFarTo 55 = .ok (.iload 4, 2) := by decide +kernel
theorem dX9_findFarTo_57 : decode cX9_findFarTo 57 = .ok (.aload_n 0, 1) := by decide +kernel
theorem dX9_findFarTo_58 : decode cX9_findFarTo 58 = .ok (.getfield 127, 3) := by decide +kernel
theorem dX9_findFarTo_61 : decode cX9_findFarTo 61 = .ok (.if_icmp .ge 58, 3) := by decide +kernel
theorem dX9_findFarTo_64 : decode cX9_findFarTo 64 = .ok (.aload_n 0, 1) := by decide +kernel
theorem dX9_findFarTo_65 : decode cX9_findFarTo 65 = .ok (.getfield 81, 3) := by decide +kernel
theorem dX9_findFarTo_68 : decode cX9_findFarTo 68 = .ok (.iload_n 3, 1) := by decide +kernel
theorem dX9_findFarTo_69 : decode cX9_findFarTo 69 = .ok (.aload_n 0, 1) := by decide +kernel
theorem dX9_findFarTo_70 : decode cX9_findFarTo 70 = .ok (.getfield 81, 3) := by decide +kernel
theorem dX9_findFarTo_73 : decode cX9_findFarTo 73 = .ok (.iload_n 3, 1) := by decide +kernel
theorem dX9_findFarTo_74 : decode cX9_findFarTo 74 = .ok (.iaload, 1) := by decide +kernel
theorem dX9_findFarTo_75 : decode cX9_findFarTo 75 = .ok (.ifCond .ge 31, 3) := by decide +kernel
theorem dX9_findFarTo_78 : decode cX9_findFarTo 78 = .ok (.aload_n 0, 1) := by decide +kernel
theorem dX9_findFarTo_79 : decode cX9_findFarTo 79 = .ok (.getfield 81, 3) := by decide +kernel
theorem dX9_findFarTo_82 : decode cX9_findFarTo 82 = .ok (.aload_n 0, 1) := by decide +kernel
theorem dX9_findFarTo_83 : decode cX9_findFarTo 83 = .ok (.getfield 69, 3) := by decide +kernel
theorem dX9_findFarTo_86 : decode cX9_findFarTo 86 = .ok (.sipush 256, 3) := by decide +kernel
theorem dX9_findFarTo_89 : decode cX9_findFarTo 89 = .ok (.iload 4, 2) := by decide +kernel
theorem dX9_findFarTo_91 : decode cX9_findFarTo 91 = .ok (.imul, 1) := by decide +kernel
theorem dX9_findFarTo_92 : decode cX9_findFarTo 92 = .ok (.iload_n 3, 1) := by decide +kernel
theorem dX9_findFarTo_93 : decode cX9_findFarTo 93 = .ok (.iadd, 1) := by decide +kernel
theorem dX9_findFarTo_94 : decode cX9_findFarTo 94 = .ok (.iaload, 1) := by decide +kernel
theorem dX9_findFarTo_95 : decode cX9_findFarTo 95 = .ok (.iaload, 1) := by decide +kernel
theorem dX9_findFarTo_96 : decode cX9_findFarTo 96 = .ok (.iload_n 2, 1) := by decide +kernel
theorem dX9_findFarTo_97 : decode cX9_findFarTo 97 = .ok (.if_icmp .ne 9, 3) := by decide +kernel
theorem dX9_findFarTo_100 : decode cX9_findFarTo 100 = .ok (.iload_n 2, 1) := by decide +kernel
theorem dX9_findFarTo_101 : decode cX9_findFarTo 101 = .ok (.iconst 1, 1) := by decide +kernel
theorem dX9_findFarTo_102 : decode cX9_findFarTo 102 = .ok (.iadd, 1) := by decide +kernel
theorem dX9_findFarTo_103 : decode cX9_findFarTo 103 = .ok (.goto 9, 3) := by decide +kernel
theorem dX9_findFarTo_106 : decode cX9_findFarTo 106 = .ok (.aload_n 0, 1) := by decide +kernel
theorem dX9_findFarTo_107 : decode cX9_findFarTo 107 = .ok (.getfield 81, 3) := by decide +kernel
theorem dX9_findFarTo_110 : decode cX9_findFarTo 110 = .ok (.iload_n 3, 1) := by decide +kernel
theorem dX9_findFarTo_111 : decode cX9_findFarTo 111 = .ok (.iaload, 1) := by decide +kernel
theorem dX9_findFarTo_112 : decode cX9_findFarTo 112 = .ok (.iastore, 1) := by decide +kernel
theorem dX9_findFarTo_113 : decode cX9_findFarTo 113 = .ok (.iinc 4 1, 3) := by decide +kernel
theorem dX9_findFarTo_116 : decode cX9_findFarTo 116 = .ok (.goto (-61), 3) := by decide +kernel
theorem dX9_findFarTo_119 : decode cX9_findFarTo 119 = .ok (.iinc 3 1, 3) := by decide +kernel
theorem dX9_findFarTo_122 : decode cX9_findFarTo 122 = .ok (.goto (-78), 3) := by decide +kernel
theorem dX9_findFarTo_125 : decode cX9_findFarTo 125 = .ok (.iinc 2 1, 3) := by decide +kernel
theorem dX9_findFarTo_128 : decode cX9_findFarTo 128 = .ok (.goto (-94), 3) := by decide +kernel
theorem dX9_findFarTo_131 : decode cX9_findFarTo 131 = .ok (.return_, 1) := by decide +kernel
theorem dX9_way_0 : decode cX9_way 0 = .ok (.aload_n 0, 1) := by decide +kernel
theorem dX9_way_1 : decode cX9_way 1 = .ok (.iload_n 1, 1) := by decide +kernel
theorem dX9_way_2 : decode cX9_way 2 = .ok (.iload_n 2, 1) := by decide +kernel
theorem dX9_way_3 : decode cX9_way 3 = .ok (.invokevirtual 267, 3) := by decide +kernel
theorem dX9_way_6 : decode cX9_way 6 = .ok (.istore 4, 2) := by decide +kernel
theorem dX9_way_8 : decode cX9_way 8 = .ok (.iload_n 3, 1) := by decide +kernel
theorem dX9_way_9 : decode cX9_way 9 = .ok (.ifCond .lt 9, 3) := by decide +kernel
theorem dX9_way_12 : decode cX9_way 12 = .ok (.iload_n 3, 1) := by decide +kernel
theorem dX9_way_13 : decode cX9_way 13 = .ok (.iload 4, 2) := by decide +kernel
theorem dX9_way_15 : decode cX9_way 15 = .ok (.if_icmp .lt 5, 3) := by decide +kernel
theorem dX9_way_18 : decode cX9_way 18 = .ok (.iconst 0, 1) := by decide +kernel
theorem dX9_way_19 : decode cX9_way 19 = .ok (.ireturn, 1) := by decide +kernel
theorem dX9_way_20 : decode cX9_way 20 = .ok (.aload_n 0, 1) := by decide +kernel
theorem dX9_way_21 : decode cX9_way 21 = .ok (.aload_n 0, 1) := by decide +kernel
theorem dX9_way_22 : decode cX9_way 22 = .ok (.getfield 261, 3) := by decide +kernel
theorem dX9_way_25 : decode cX9_way 25 = .ok (.invokevirtual 270, 3) := by decide +kernel
theorem dX9_way_28 : decode cX9_way 28 = .ok (.aload_n 0, 1) := by decide +kernel
theorem dX9_way_29 : decode cX9_way 29 = .ok (.getfield 252, 3) := by decide +kernel
theorem dX9_way_32 : decode cX9_way 32 = .ok (.istore 5, 2) := by decide +kernel
theorem dX9_way_34 : decode cX9_way 34 = .ok (.iconst 0, 1) := by decide +kernel
theorem dX9_way_35 : decode cX9_way 35 = .ok (.istore 6, 2) := by decide +kernel
theorem dX9_way_37 : decode cX9_way 37 = .ok (.iconst 0, 1) := by decide +kernel
theorem dX9_way_38 : decode cX9_way 38 = .ok (.istore 7, 2) := by decide +kernel
theorem dX9_way_40 : decode cX9_way 40 = .ok (.iload 7, 2) := by decide +kernel
theorem dX9_way_42 : decode cX9_way 42 = .ok (.iload_n 3, 1) := by decide +kernel
theorem dX9_way_43 : decode cX9_way 43 = .ok (.if_icmp .gt 74, 3) := by decide +kernel
theorem dX9_way_46 : decode cX9_way 46 = .ok (.iconst 0, 1) := by decide +kernel
theorem dX9_way_47 : decode cX9_way 47 = .ok (.istore 8, 2) := by decide +kernel
theorem dX9_way_49 : decode cX9_way 49 = .ok (.aload_n 0, 1) := by decide +kernel
theorem dX9_way_50 : decode cX9_way 50 = .ok (.getfield 81, 3) := by decide +kernel
theorem dX9_way_53 : decode cX9_way 53 = .ok (.aload_n 0, 1) := by decide +kernel
theorem dX9_way_54 : decode cX9_way 54 = .ok (.getfield 69, 3) := by decide +kernel
theorem dX9_way_57 : decode cX9_way 57 = .ok (.sipush 256, 3) := by decide +kernel
theorem dX9_way_60 : decode cX9_way 60 = .ok (.iload 8, 2) := by decide +kernel
theorem dX9_way_62 : decode cX9_way 62 = .ok (.imul, 1) := by decide +kernel
theorem dX9_way_63 : decode cX9_way 63 = .ok (.iload 5, 2) := by decide +kernel
theorem dX9_way_65 : decode cX9_way 65 = .ok (.iadd, 1) := by decide +kernel
theorem dX9_way_66 : decode cX9_way 66 = .ok (.iaload, 1) := by decide +kernel
theorem dX9_way_67 : decode cX9_way 67 = .ok (.iaload, 1) := by decide +kernel
theorem dX9_way_68 : decode cX9_way 68 = .ok (.aload_n 0, 1) := by decide +kernel
theorem dX9_way_69 : decode cX9_way 69 = .ok (.getfield 81, 3) := by decide +kernel
theorem dX9_way_72 : decode cX9_way 72 = .ok (.iload 5, 2) := by decide +kernel
theorem dX9_way_74 : decode cX9_way 74 = .ok (.iaload, 1) := by decide +kernel
theorem dX9_way_75 : decode cX9_way 75 = .ok (.iconst 1, 1) := by decide +kernel
theorem dX9_way_76 : decode cX9_way 76 = .ok (.isub, 1) := by decide +kernel
theorem dX9_way_77 : decode cX9_way 77 = .ok (.if_icmp .eq 9, 3) := by decide +kernel
theorem dX9_way_80 : decode cX9_way 80 = .ok (.iinc 8 1, 3) := by decide +kernel
theorem dX9_way_83 : decode cX9_way 83 = .ok (.goto (-34), 3) := by decide +kernel
theorem dX9_way_86 : decode cX9_way 86 = .ok (.aload_n 0, 1) := by decide +kernel
theorem dX9_way_87 : decode cX9_way 87 = .ok (.getfield 39, 3) := by decide +kernel
theorem dX9_way_90 : decode cX9_way 90 = .ok (.iload 8, 2) := by decide +kernel
theorem dX9_way_92 : decode cX9_way 92 = .ok (.iaload, 1) := by decide +kernel
theorem dX9_way_93 : decode cX9_way 93 = .ok (.istore 6, 2) := by decide +kernel
theorem dX9_way_95 : decode cX9_way 95 = .ok (.aload_n 0, 1) := by decide +kernel
theorem dX9_way_96 : decode cX9_way 96 = .ok (.getfield 69, 3) := by decide +kernel
theorem dX9_way_99 : decode cX9_way 99 = .ok (.sipush 256, 3) := by decide +kernel
theorem dX9_way_102 : decode cX9_way 102 = .ok (.iload 8, 2) := by decide +kernel
theorem dX9_way_104 : decode cX9_way 104 = .ok (.imul, 1) := by decide +kernel
theorem dX9_way_105 : decode cX9_way 105 = .ok (.iload 5, 2) := by decide +kernel
theorem dX9_way_107 : decode cX9_way 107 = .ok (.iadd, 1) := by decide +kernel
theorem dX9_way_108 : decode cX9_way 108 = .ok (.iaload, 1) := by decide +kernel
theorem dX9_way_109 : decode cX9_way 109 = .ok (.istore 5, 2) := by decide +kernel
theorem dX9_way_111 : decode cX9_way 111 = .ok (.iinc 7 1, 3) := by decide +kernel
theorem dX9_way_114 : decode cX9_way 114 = .ok (.goto (-74), 3) := by decide +kernel
theorem dX9_way_117 : decode cX9_way 117 = .ok (.iload 6, 2) := by decide +kernel
theorem dX9_way_119 : decode cX9_way 119 = .ok (.ireturn, 1) := by decide +kernel
theorem dX9_reach_0 : decode cX9_reach 0 = .ok (.aload_n 0, 1) := by decide +kernel
theorem dX9_reach_1 : decode cX9_reach 1 = .ok (.iload_n 1, 1) := by decide +kernel
theorem dX9_reach_2 : decode cX9_reach 2 = .ok (.invokevirtual 255, 3) := by decide +kernel
theorem dX9_reach_5 : decode cX9_reach 5 = .ok (.istore_n 2, 1) := by decide +kernel
theorem dX9_reach_6 : decode cX9_reach 6 = .ok (.iload_n 2, 1) := by decide +kernel
theorem dX9_reach_7 : decode cX9_reach 7 = .ok (.ifCond .eq 5, 3) := by decide +kernel
theorem dX9_reach_10 : decode cX9_reach 10 = .ok (.iload_n 2, 1) := by decide +kernel
theorem dX9_reach_11 : decode cX9_reach 11 = .ok (.ireturn, 1) := by decide +kernel
theorem dX9_reach_12 : decode cX9_reach 12 = .ok (.aload_n 0, 1) := by decide +kernel
theorem dX9_reach_13 : decode cX9_reach 13 = .ok (.aload_n 0, 1) := by decide +kernel
theorem dX9_reach_14 : decode cX9_reach 14 = .ok (.getfield 252, 3) := by decide +kernel
theorem dX9_reach_17 : decode cX9_reach 17 = .ok (.invokevirtual 258, 3) := by decide +kernel
theorem dX9_reach_20 : decode cX9_reach 20 = .ok (.iconst 0, 1) := by decide +kernel
theorem dX9_reach_21 : decode cX9_reach 21 = .ok (.istore_n 3, 1) := by decide +kernel
theorem dX9_reach_22 : decode cX9_reach 22 = .ok (.iconst 0, 1) := by decide +kernel
theorem dX9_reach_23 : decode cX9_reach 23 = .ok (.istore 4, 2) := by decide +kernel
theorem dX9_reach_25 : decode cX9_reach 25 = .ok (.iload 4, 2) := by decide +kernel
theorem dX9_reach_27 : decode cX9_reach 27 = .ok (.aload_n 0, 1) := by decide +kernel
theorem dX9_reach_28 : decode cX9_reach 28 = .ok (.getfield 226, 3) := by decide +kernel
theorem dX9_reach_31 : decode cX9_reach 31 = .ok (.if_icmp .ge 21, 3) := by decide +kernel
theorem dX9_reach_34 : decode cX9_reach 34 = .ok (.iload_n 3, 1) := by decide +kernel
theorem dX9_reach_35 : decode cX9_reach 35 = .ok (.aload_n 0, 1) := by decide +kernel
theorem dX9_reach_36 : decode cX9_reach 36 = .ok (.getfield 78, 3) := by decide +kernel
theorem dX9_reach_39 : decode cX9_reach 39 = .ok (.iload 4, 2) := by decide +kernel
theorem dX9_reach_41 : decode cX9_reach 41 = .ok (.iaload, 1) := by decide +kernel
theorem dX9_reach_42 : decode cX9_reach 42 = .ok (.invokestatic 273, 3) := by decide +kernel
theorem dX9_reach_45 : decode cX9_reach 45 = .ok (.istore_n 3, 1) := by decide +kernel
theorem dX9_reach_46 : decode cX9_reach 46 = .ok (.iinc 4 1, 3) := by decide +kernel
theorem dX9_reach_49 : decode cX9_reach 49 = .ok (.goto (-24), 3) := by decide +kernel
theorem dX9_reach_52 : decode cX9_reach 52 = .ok (.iload_n 3, 1) := by decide +kernel
theorem dX9_reach_53 : decode cX9_reach 53 = .ok (.ireturn, 1) := by decide +kernel
theorem dX9_toGroup_0 : decode cX9_toGroup 0 = .ok (.lload_n 1, 1) := by decide +kernel
theorem dX9_toGroup_1 : decode cX9_toGroup 1 = .ok (.ldc2_w 276, 3) := by decide +kernel
theorem dX9_toGroup_4 : decode cX9_toGroup 4 = .ok (.lmul, 1) := by decide +kernel
theorem dX9_toGroup_5 : decode cX9_toGroup 5 = .ok (.lstore_n 3, 1) := by decide +kernel
theorem dX9_toGroup_6 : decode cX9_toGroup 6 = .ok (.lload_n 3, 1) := by decide +kernel
theorem dX9_toGroup_7 : decode cX9_toGroup 7 = .ok (.bipush 51, 2) := by decide +kernel
theorem dX9_toGroup_9 : decode cX9_toGroup 9 = .ok (.lushr, 1) := by decide +kernel
theorem dX9_toGroup_10 : decode cX9_toGroup 10 = .ok (.l2i, 1) := by decide +kernel
theorem dX9_toGroup_11 : decode cX9_toGroup 11 = .ok (.istore 5, 2) := by decide +kernel
theorem dX9_toGroup_13 : decode cX9_toGroup 13 = .ok (.aload_n 0, 1) := by decide +kernel
theorem dX9_toGroup_14 : decode cX9_toGroup 14 = .ok (.getfield 88, 3) := by decide +kernel
theorem dX9_toGroup_17 : decode cX9_toGroup 17 = .ok (.iload 5, 2) := by decide +kernel
theorem dX9_toGroup_19 : decode cX9_toGroup 19 = .ok (.iaload, 1) := by decide +kernel
theorem dX9_toGroup_20 : decode cX9_toGroup 20 = .ok (.ifCond .le 35, 3) := by decide +kernel
theorem dX9_toGroup_23 : decode cX9_toGroup 23 = .ok (.aload_n 0, 1) := by decide +kernel
theorem dX9_toGroup_24 : decode cX9_toGroup 24 = .ok (.getfield 84, 3) := by decide +kernel
theorem dX9_toGroup_27 : decode cX9_toGroup 27 = .ok (.aload_n 0, 1) := by decide +kernel
theorem dX9_toGroup_28 : decode cX9_toGroup 28 = .ok (.getfield 88, 3) := by decide +kernel
theorem dX9_toGroup_31 : decode cX9_toGroup 31 = .ok (.iload 5, 2) := by decide +kernel
theorem dX9_toGroup_33 : decode cX9_toGroup 33 = .ok (.iaload, 1) := by decide +kernel
theorem dX9_toGroup_34 : decode cX9_toGroup 34 = .ok (.iconst 1, 1) := by decide +kernel
theorem dX9_toGroup_35 : decode cX9_toGroup 35 = .ok (.isub, 1) := by decide +kernel
theorem dX9_toGroup_36 : decode cX9_toGroup 36 = .ok (.laload, 1) := by decide +kernel
theorem dX9_toGroup_37 : decode cX9_toGroup 37 = .ok (.lload_n 1, 1) := by decide +kernel
theorem dX9_toGroup_38 : decode cX9_toGroup 38 = .ok (.lcmp, 1) := by decide +kernel
theorem dX9_toGroup_39 : decode cX9_toGroup 39 = .ok (.ifCond .eq 16, 3) := by decide +kernel
theorem dX9_toGroup_42 : decode cX9_toGroup 42 = .ok (.iload 5, 2) := by decide +kernel
theorem dX9_toGroup_44 : decode cX9_toGroup 44 = .ok (.iconst 1, 1) := by decide +kernel
theorem dX9_toGroup_45 : decode cX9_toGroup 45 = .ok (.iadd, 1) := by decide +kernel
theorem dX9_toGroup_46 : decode cX9_toGroup 46 = .ok (.sipush 8192, 3) := by decide +kernel
theorem dX9_toGroup_49 : decode cX9_toGroup 49 = .ok (.irem, 1) := by decide +kernel
theorem dX9_toGroup_50 : decode cX9_toGroup 50 = .ok (.istore 5, 2) := by decide +kernel
theorem dX9_toGroup_52 : decode cX9_toGroup 52 = .ok (.goto (-39), 3) := by decide +kernel
theorem dX9_toGroup_55 : decode cX9_toGroup 55 = .ok (.aload_n 0, 1) := by decide +kernel
theorem dX9_toGroup_56 : decode cX9_toGroup 56 = .ok (.getfield 88, 3) := by decide +kernel
theorem dX9_toGroup_59 : decode cX9_toGroup 59 = .ok (.iload 5, 2) := by decide +kernel
theorem dX9_toGroup_61 : decode cX9_toGroup 61 = .ok (.iaload, 1) := by decide +kernel
theorem dX9_toGroup_62 : decode cX9_toGroup 62 = .ok (.ifCond .le 5, 3) := by decide +kernel
theorem dX9_toGroup_65 : decode cX9_toGroup 65 = .ok (.iconst 1, 1) := by decide +kernel
theorem dX9_toGroup_66 : decode cX9_toGroup 66 = .ok (.ireturn, 1) := by decide +kernel
theorem dX9_toGroup_67 : decode cX9_toGroup 67 = .ok (.aload_n 0, 1) := by decide +kernel
theorem dX9_toGroup_68 : decode cX9_toGroup 68 = .ok (.getfield 278, 3) := by decide +kernel
theorem dX9_toGroup_71 : decode cX9_toGroup 71 = .ok (.sipush 3000, 3) := by decide +kernel
theorem dX9_toGroup_74 : decode cX9_toGroup 74 = .ok (.if_icmp .ne 5, 3) := by decide +kernel
theorem dX9_toGroup_77 : decode cX9_toGroup 77 = .ok (.iconst 0, 1) := by decide +kernel
theorem dX9_toGroup_78 : decode cX9_toGroup 78 = .ok (.ireturn, 1) := by decide +kernel
theorem dX9_toGroup_79 : decode cX9_toGroup 79 = .ok (.aload_n 0, 1) := by decide +kernel
theorem dX9_toGroup_80 : decode cX9_toGroup 80 = .ok (.getfield 84, 3) := by decide +kernel
theorem dX9_toGroup_83 : decode cX9_toGroup 83 = .ok (.aload_n 0, 1) := by decide +kernel
theorem dX9_toGroup_84 : decode cX9_toGroup 84 = .ok (.getfield 278, 3) := by decide +kernel
theorem dX9_toGroup_87 : decode cX9_toGroup 87 = .ok (.lload_n 1, 1) := by decide +kernel
theorem dX9_toGroup_88 : decode cX9_toGroup 88 = .ok (.lastore, 1) := by decide +kernel
theorem dX9_toGroup_89 : decode cX9_toGroup 89 = .ok (.aload_n 0, 1) := by decide +kernel
theorem dX9_toGroup_90 : decode cX9_toGroup 90 = .ok (.dup, 1) := by decide +kernel
theorem dX9_toGroup_91 : decode cX9_toGroup 91 = .ok (.getfield 278, 3) := by decide +kernel
theorem dX9_toGroup_94 : decode cX9_toGroup 94 = .ok (.iconst 1, 1) := by decide +kernel
theorem dX9_toGroup_95 : decode cX9_toGroup 95 = .ok (.iadd, 1) := by decide +kernel
theorem dX9_toGroup_96 : decode cX9_toGroup 96 = .ok (.putfield 278, 3) := by decide +kernel
theorem dX9_toGroup_99 : decode cX9_toGroup 99 = .ok (.aload_n 0, 1) := by decide +kernel
theorem dX9_toGroup_100 : decode cX9_toGroup 100 = .ok (.getfield 88, 3) := by decide +kernel
theorem dX9_toGroup_103 : decode cX9_toGroup 103 = .ok (.iload 5, 2) := by decide +kernel
theorem dX9_toGroup_105 : decode cX9_toGroup 105 = .ok (.aload_n 0, 1) := by decide +kernel
theorem dX9_toGroup_106 : decode cX9_toGroup 106 = .ok (.getfield 278, 3) := by decide +kernel
theorem dX9_toGroup_109 : decode cX9_toGroup 109 = .ok (.iastore, 1) := by decide +kernel
theorem dX9_toGroup_110 : decode cX9_toGroup 110 = .ok (.iconst 1, 1) := by decide +kernel
theorem dX9_toGroup_111 : decode cX9_toGroup 111 = .ok (.ireturn, 1) := by decide +kernel
theorem dX9_made_0 : decode cX9_made 0 = .ok (.lconst 0, 1) := by decide +kernel
theorem dX9_made_1 : decode cX9_made 1 = .ok (.lstore 4, 2) := by decide +kernel
theorem dX9_made_3 : decode cX9_made 3 = .ok (.iconst 0, 1) := by decide +kernel
theorem dX9_made_4 : decode cX9_made 4 = .ok (.istore 6, 2) := by decide +kernel
theorem dX9_made_6 : decode cX9_made 6 = .ok (.iload 6, 2) := by decide +kernel
theorem dX9_made_8 : decode cX9_made 8 = .ok (.aload_n 0, 1) := by decide +kernel
theorem dX9_made_9 : decode cX9_made 9 = .ok (.getfield 226, 3) := by decide +kernel
theorem dX9_made_12 : decode cX9_made 12 = .ok (.if_icmp .ge 46, 3) := by decide +kernel
theorem dX9_made_15 : decode cX9_made 15 = .ok (.lload_n 1, 1) := by decide +kernel
theorem dX9_made_16 : decode cX9_made 16 = .ok (.iconst 4, 1) := by decide +kernel
theorem dX9_made_17 : decode cX9_made 17 = .ok (.iload 6, 2) := by decide +kernel
theorem dX9_made_19 : decode cX9_made 19 = .ok (.imul, 1) := by decide +kernel
theorem dX9_made_20 : decode cX9_made 20 = .ok (.lushr, 1) := by decide +kernel
theorem dX9_made_21 : decode cX9_made 21 = .ok (.ldc2_w 281, 3) := by decide +kernel
theorem dX9_made_24 : decode cX9_made 24 = .ok (.land, 1) := by decide +kernel
theorem dX9_made_25 : decode cX9_made 25 = .ok (.l2i, 1) := by decide +kernel
theorem dX9_made_26 : decode cX9_made 26 = .ok (.istore 7, 2) := by decide +kernel
theorem dX9_made_28 : decode cX9_made 28 = .ok (.lload 4, 2) := by decide +kernel
theorem dX9_made_30 : decode cX9_made 30 = .ok (.aload_n 0, 1) := by decide +kernel
theorem dX9_made_31 : decode cX9_made 31 = .ok (.getfield 69, 3) := by decide +kernel
theorem dX9_made_34 : decode cX9_made 34 = .ok (.sipush 256, 3) := by decide +kernel
theorem dX9_made_37 : decode cX9_made 37 = .ok (.iload_n 3, 1) := by decide +kernel
theorem dX9_made_38 : decode cX9_made 38 = .ok (.imul, 1) := by decide +kernel
theorem dX9_made_39 : decode cX9_made 39 = .ok (.iload 7, 2) := by decide +kernel
theorem dX9_made_41 : decode cX9_made 41 = .ok (.iadd, 1) := by decide +kernel
theorem dX9_made_42 : decode cX9_made 42 = .ok (.iaload, 1) := by decide +kernel
theorem dX9_made_43 : decode cX9_made 43 = .ok (.i2l, 1) := by decide +kernel
theorem dX9_made_44 : decode cX9_made 44 = .ok (.iconst 4, 1) := by decide +kernel
theorem dX9_made_45 : decode cX9_made 45 = .ok (.iload 6, 2) := by decide +kernel
theorem dX9_made_47 : decode cX9_made 47 = .ok (.imul, 1) := by decide +kernel
theorem dX9_made_48 : decode cX9_made 48 = .ok (.lshl, 1) := by decide +kernel
theorem dX9_made_49 : decode cX9_made 49 = .ok (.lor, 1) := by decide +kernel
theorem dX9_made_50 : decode cX9_made 50 = .ok (.lstore 4, 2) := by decide +kernel
theorem dX9_made_52 : decode cX9_made 52 = .ok (.iinc 6 1, 3) := by decide +kernel
theorem dX9_made_55 : decode cX9_made 55 = .ok (.goto (-49), 3) := by decide +kernel
theorem dX9_made_58 : decode cX9_made 58 = .ok (.lload 4, 2) := by decide +kernel
theorem dX9_made_60 : decode cX9_made 60 = .ok (.lreturn, 1) := by decide +kernel
theorem dX9_group_0 : decode cX9_group 0 = .ok (.aload_n 0, 1) := by decide +kernel
theorem dX9_group_1 : decode cX9_group 1 = .ok (.iload_n 1, 1) := by decide +kernel
theorem dX9_group_2 : decode cX9_group 2 = .ok (.bipush 16, 2) := by decide +kernel
theorem dX9_group_4 : decode cX9_group 4 = .ok (.invokevirtual 223, 3) := by decide +kernel
theorem dX9_group_7 : decode cX9_group 7 = .ok (.ifCond .ge 5, 3) := by decide +kernel
theorem dX9_group_10 : decode cX9_group 10 = .ok (.iconst (-1), 1) := by decide +kernel
theorem dX9_group_11 : decode cX9_group 11 = .ok (.ireturn, 1) := by decide +kernel
theorem dX9_group_12 : decode cX9_group 12 = .ok (.aload_n 0, 1) := by decide +kernel
theorem dX9_group_13 : decode cX9_group 13 = .ok (.invokevirtual 133, 3) := by decide +kernel
theorem dX9_group_16 : decode cX9_group 16 = .ok (.ifCond .ne 6, 3) := by decide +kernel
theorem dX9_group_19 : decode cX9_group 19 = .ok (.bipush (-5), 2) := by decide +kernel
theorem dX9_group_21 : decode cX9_group 21 = .ok (.ireturn, 1) := by decide +kernel
theorem dX9_group_22 : decode cX9_group 22 = .ok (.aload_n 0, 1) := by decide +kernel
theorem dX9_group_23 : decode cX9_group 23 = .ok (.iload_n 1, 1) := by decide +kernel
theorem dX9_group_24 : decode cX9_group 24 = .ok (.invokevirtual 244, 3) := by decide +kernel
theorem dX9_group_27 : decode cX9_group 27 = .ok (.iconst 0, 1) := by decide +kernel
theorem dX9_group_28 : decode cX9_group 28 = .ok (.istore_n 2, 1) := by decide +kernel
theorem dX9_group_29 : decode cX9_group 29 = .ok (.iload_n 2, 1) := by decide +kernel
theorem dX9_group_30 : decode cX9_group 30 = .ok (.aload_n 0, 1) := by decide +kernel
theorem dX9_group_31 : decode cX9_group 31 = .ok (.getfield 127, 3) := by decide +kernel
theorem dX9_group_34 : decode cX9_group 34 = .ok (.if_icmp .ge 25, 3) := by decide +kernel
theorem dX9_group_37 : decode cX9_group 37 = .ok (.aload_n 0, 1) := by decide +kernel
theorem dX9_group_38 : decode cX9_group 38 = .ok (.getfield 91, 3) := by decide +kernel
theorem dX9_group_41 : decode cX9_group 41 = .ok (.iload_n 2, 1) := by decide +kernel
theorem dX9_group_42 : decode cX9_group 42 = .ok (.aload_n 0, 1) := by decide +kernel
theorem dX9_group_43 : decode cX9_group 43 = .ok (.aload_n 0, 1) := by decide +kernel
theorem dX9_group_44 : decode cX9_group 44 = .ok (.getfield 39, 3) := by decide +kernel
theorem dX9_group_47 : decode cX9_group 47 = .ok (.iload_n 2, 1) := by decide +kernel
theorem dX9_group_48 : decode cX9_group 48 = .ok (.iaload, 1) := by decide +kernel
theorem dX9_group_49 : decode cX9_group 49 = .ok (.invokevirtual 235, 3) := by decide +kernel
theorem dX9_group_52 : decode cX9_group 52 = .ok (.bastore, 1) := by decide +kernel
theorem dX9_group_53 : decode cX9_group 53 = .ok (.iinc 2 1, 3) := by decide +kernel
theorem dX9_group_56 : decode cX9_group 56 = .ok (.goto (-27), 3) := by decide +kernel
theorem dX9_group_59 : decode cX9_group 59 = .ok (.lconst 0, 1) := by decide +kernel
theorem dX9_group_60 : decode cX9_group 60 = .ok (.lstore_n 2, 1) := by decide +kernel
theorem dX9_group_61 : decode cX9_group 61 = .ok (.iconst 0, 1) := by decide +kernel
theorem dX9_group_62 : decode cX9_group 62 = .ok (.istore 4, 2) := by decide +kernel
theorem dX9_group_64 : decode cX9_group 64 = .ok (.iload 4, 2) := by decide +kernel
theorem dX9_group_66 : decode cX9_group 66 = .ok (.aload_n 0, 1) := by decide +kernel
theorem dX9_group_67 : decode cX9_group 67 = .ok (.getfield 226, 3) := by decide +kernel
theorem dX9_group_70 : decode cX9_group 70 = .ok (.if_icmp .ge 20, 3) := by decide +kernel
theorem dX9_group_73 : decode cX9_group 73 = .ok (.lload_n 2, 1) := by decide +kernel
theorem dX9_group_74 : decode cX9_group 74 = .ok (.iload 4, 2) := by decide +kernel
theorem dX9_group_76 : decode cX9_group 76 = .ok (.i2l, 1) := by decide +kernel
theorem dX9_group_77 : decode cX9_group 77 = .ok (.iconst 4, 1) := by decide +kernel
theorem dX9_group_78 : decode cX9_group 78 = .ok (.iload 4, 2) := by decide +kernel
theorem dX9_group_80 : decode cX9_group 80 = .ok (.imul, 1) := by decide +kernel
theorem dX9_group_81 : decode cX9_group 81 = .ok (.lshl, 1) := by decide +kernel
theorem dX9_group_82 : decode cX9_group 82 = .ok (.lor, 1) := by decide +kernel
theorem dX9_group_83 : decode cX9_group 83 = .ok (.lstore_n 2, 1) := by decide +kernel
theorem dX9_group_84 : decode cX9_group 84 = .ok (.iinc 4 1, 3) := by decide +kernel
theorem dX9_group_87 : decode cX9_group 87 = .ok (.goto (-23), 3) := by decide +kernel
theorem dX9_group_90 : decode cX9_group 90 = .ok (.iconst 0, 1) := by decide +kernel
theorem dX9_group_91 : decode cX9_group 91 = .ok (.istore 4, 2) := by decide +kernel
theorem dX9_group_93 : decode cX9_group 93 = .ok (.iload 4, 2) := by decide +kernel
theorem dX9_group_95 : decode cX9_group 95 = .ok (.sipush 8192, 3) := by decide +kernel
theorem dX9_group_98 : decode cX9_group 98 = .ok (.if_icmp .ge 17, 3) := by decide +kernel
theorem dX9_group_101 : decode cX9_group 101 = .ok (.aload_n 0, 1) := by decide +kernel
theorem dX9_group_102 : decode cX9_group 102 = .ok (.getfield 88, 3) := by decide +kernel
theorem dX9_group_105 : decode cX9_group 105 = .ok (.iload 4, 2) := by decide +kernel
theorem dX9_group_107 : decode cX9_group 107 = .ok (.iconst 0, 1) := by decide +kernel
theorem dX9_group_108 : decode cX9_group 108 = .ok (.iastore, 1) := by decide +kernel
theorem dX9_group_109 : decode cX9_group 109 = .ok (.iinc 4 1, 3) := by decide +kernel
theorem dX9_group_112 : decode cX9_group 112 = .ok (.goto (-19), 3) := by decide +kernel
theorem dX9_group_115 : decode cX9_group 115 = .ok (.aload_n 0, 1) := by decide +kernel
theorem dX9_group_116 : decode cX9_group 116 = .ok (.iconst 0, 1) := by decide +kernel
theorem dX9_group_117 : decode cX9_group 117 = .ok (.putfield 278, 3) := by decide +kernel
theorem dX9_group_120 : decode cX9_group 120 = .ok (.aload_n 0, 1) := by decide +kernel
theorem dX9_group_121 : decode cX9_group 121 = .ok (.lload_n 2, 1) := by decide +kernel
theorem dX9_group_122 : decode cX9_group 122 = .ok (.invokevirtual 283, 3) := by decide +kernel
theorem dX9_group_125 : decode cX9_group 125 = .ok (.istore 4, 2) := by decide +kernel
theorem dX9_group_127 : decode cX9_group 127 = .ok (.iconst 0, 1) := by decide +kernel
theorem dX9_group_128 : decode cX9_group 128 = .ok (.istore 5, 2) := by decide +kernel
theorem dX9_group_130 : decode cX9_group 130 = .ok (.iload 5, 2) := by decide +kernel
theorem dX9_group_132 : decode cX9_group 132 = .ok (.aload_n 0, 1) := by decide +kernel
theorem dX9_group_133 : decode cX9_group 133 = .ok (.getfield 278, 3) := by decide +kernel
theorem dX9_group_136 : decode cX9_group 136 = .ok (.if_icmp .ge 60, 3) := by decide +kernel
theorem dX9_group_139 : decode cX9_group 139 = .ok (.iconst 0, 1) := by decide +kernel
theorem dX9_group_140 : decode cX9_group 140 = .ok (.istore 6, 2) := by decide +kernel
theorem dX9_group_142 : decode cX9_group 142 = .ok (.iload 6, 2) := by decide +kernel
theorem dX9_group_144 : decode cX9_group 144 = .ok (.aload_n 0, 1) := by decide +kernel
theorem dX9_group_145 : decode cX9_group 145 = .ok (.getfield 127, 3) := by decide +kernel
theorem dX9_group_148 : decode cX9_group 148 = .ok (.if_icmp .ge 42, 3) := by decide +kernel
theorem dX9_group_151 : decode cX9_group 151 = .ok (.aload_n 0, 1) := by decide +kernel
theorem dX9_group_152 : decode cX9_group 152 = .ok (.getfield 91, 3) := by decide +kernel
theorem dX9_group_155 : decode cX9_group 155 = .ok (.iload 6, 2) := by decide +kernel
theorem dX9_group_157 : decode cX9_group 157 = .ok (.baload, 1) := by decide +kernel
theorem dX9_group_158 : decode cX9_group 158 = .ok (.ifCond .eq 26, 3) := by decide +kernel
theorem dX9_group_161 : decode cX9_group 161 = .ok (.aload_n 0, 1) := by decide +kernel
theorem dX9_group_162 : decode cX9_group 162 = .ok (.aload_n 0, 1) := by decide +kernel
theorem dX9_group_163 : decode cX9_group 163 = .ok (.aload_n 0, 1) := by decide +kernel
theorem dX9_group_164 : decode cX9_group 164 = .ok (.getfield 84, 3) := by decide +kernel
theorem dX9_group_167 : decode cX9_group 167 = .ok (.iload 5, 2) := by decide +kernel
theorem dX9_group_169 : decode cX9_group 169 = .ok (.laload, 1) := by decide +kernel
theorem dX9_group_170 : decode cX9_group 170 = .ok (.iload 6, 2) := by decide +kernel
theorem dX9_group_172 : decode cX9_group 172 = .ok (.invokevirtual 287, 3) := by decide +kernel
theorem dX9_group_175 : decode cX9_group 175 = .ok (.invokevirtual 283, 3) := by decide +kernel
theorem dX9_group_178 : decode cX9_group 178 = .ok (.ifCond .ne 6, 3) := by decide +kernel
theorem dX9_group_181 : decode cX9_group 181 = .ok (.bipush (-7), 2) := by decide +kernel
theorem dX9_group_183 : decode cX9_group 183 = .ok (.ireturn, 1) := by decide +kernel
theorem dX9_group_184 : decode cX9_group 184 = .ok (.iinc 6 1, 3) := by decide +kernel
theorem dX9_group_187 : decode cX9_group 187 = .ok (.goto (-45), 3) := by decide +kernel
theorem dX9_group_190 : decode cX9_group 190 = .ok (.iinc 5 1, 3) := by decide +kernel
theorem dX9_group_193 : decode cX9_group 193 = .ok (.goto (-63), 3) := by decide +kernel
theorem dX9_group_196 : decode cX9_group 196 = .ok (.aload_n 0, 1) := by decide +kernel
theorem dX9_group_197 : decode cX9_group 197 = .ok (.getfield 278, 3) := by decide +kernel
theorem dX9_group_200 : decode cX9_group 200 = .ok (.ireturn, 1) := by decide +kernel
theorem dX9_takeShort_0 : decode cX9_takeShort 0 = .ok (.iload_n 1, 1) := by decide +kernel
theorem dX9_takeShort_1 : decode cX9_takeShort 1 = .ok (.i2l, 1) := by decide +kernel
theorem dX9_takeShort_2 : decode cX9_takeShort 2 = .ok (.lconst 0, 1) := by decide +kernel
theorem dX9_takeShort_3 : decode cX9_takeShort 3 = .ok (.ldc2_w 291, 3) := by decide +kernel
theorem dX9_takeShort_6 : decode cX9_takeShort 6 = .ok (.invokestatic 99, 3) := by decide +kernel
theorem dX9_takeShort_9 : decode cX9_takeShort 9 = .ok (.ifCond .ne 5, 3) := by decide +kernel
theorem dX9_takeShort_12 : decode cX9_takeShort 12 = .ok (.iconst (-1), 1) := by decide +kernel
theorem dX9_takeShort_13 : decode cX9_takeShort 13 = .ok (.ireturn, 1) := by decide +kernel
theorem dX9_takeShort_14 : decode cX9_takeShort 14 = .ok (.aload_n 0, 1) := by decide +kernel
theorem dX9_takeShort_15 : decode cX9_takeShort 15 = .ok (.invokevirtual 133, 3) := by decide +kernel
theorem dX9_takeShort_18 : decode cX9_takeShort 18 = .ok (.ifCond .ne 6, 3) := by decide +kernel
theorem dX9_takeShort_21 : decode cX9_takeShort 21 = .ok (.bipush (-5), 2) := by decide +kernel
theorem dX9_takeShort_23 : decode cX9_takeShort 23 = .ok (.ireturn, 1) := by decide +kernel
theorem dX9_takeShort_24 : decode cX9_takeShort 24 = .ok (.aload_n 0, 1) := by decide +kernel
theorem dX9_takeShort_25 : decode cX9_takeShort 25 = .ok (.invokevirtual 130, 3) := by decide +kernel
theorem dX9_takeShort_28 : decode cX9_takeShort 28 = .ok (.aload_n 0, 1) := by decide +kernel
theorem dX9_takeShort_29 : decode cX9_takeShort 29 = .ok (.invokevirtual 200, 3) := by decide +kernel
theorem dX9_takeShort_32 : decode cX9_takeShort 32 = .ok (.aload_n 0, 1) := by decide +kernel
theorem dX9_takeShort_33 : decode cX9_takeShort 33 = .ok (.getfield 32, 3) := by decide +kernel
theorem dX9_takeShort_36 : decode cX9_takeShort 36 = .ok (.bipush 8, 2) := by decide +kernel
theorem dX9_takeShort_38 : decode cX9_takeShort 38 = .ok (.iconst 0, 1) := by decide +kernel
theorem dX9_takeShort_39 : decode cX9_takeShort 39 = .ok (.iastore, 1) := by decide +kernel
theorem dX9_takeShort_40 : decode cX9_takeShort 40 = .ok (.aload_n 0, 1) := by decide +kernel
theorem dX9_takeShort_41 : decode cX9_takeShort 41 = .ok (.bipush 8, 2) := by decide +kernel
theorem dX9_takeShort_43 : decode cX9_takeShort 43 = .ok (.invokevirtual 191, 3) := by decide +kernel
theorem dX9_takeShort_46 : decode cX9_takeShort 46 = .ok (.istore_n 2, 1) := by decide +kernel
theorem dX9_takeShort_47 : decode cX9_takeShort 47 = .ok (.iconst 0, 1) := by decide +kernel
theorem dX9_takeShort_48 : decode cX9_takeShort 48 = .ok (.istore_n 3, 1) := by decide +kernel
theorem dX9_takeShort_49 : decode cX9_takeShort 49 = .ok (.iconst 1, 1) := by decide +kernel
theorem dX9_takeShort_50 : decode cX9_takeShort 50 = .ok (.istore 4, 2) := by decide +kernel
theorem dX9_takeShort_52 : decode cX9_takeShort 52 = .ok (.iload 4, 2) := by decide +kernel
theorem dX9_takeShort_54 : decode cX9_takeShort 54 = .ok (.iload_n 1, 1) := by decide +kernel
theorem dX9_takeShort_55 : decode cX9_takeShort 55 = .ok (.if_icmp .gt 116, 3) := by decide +kernel
theorem dX9_takeShort_58 : decode cX9_takeShort 58 = .ok (.aload_n 0, 1) := by decide +kernel
theorem dX9_takeShort_59 : decode cX9_takeShort 59 = .ok (.getfield 178, 3) := by decide +kernel
theorem dX9_takeShort_62 : decode cX9_takeShort 62 = .ok (.istore 5, 2) := by decide +kernel
theorem dX9_takeShort_64 : decode cX9_takeShort 64 = .ok (.iload_n 3, 1) := by decide +kernel
theorem dX9_takeShort_65 : decode cX9_takeShort 65 = .ok (.istore 6, 2) := by decide +kernel
theorem dX9_takeShort_67 : decode cX9_takeShort 67 = .ok (.iload 6, 2) := by decide +kernel
theorem dX9_takeShort_69 : decode cX9_takeShort 69 = .ok (.iload 5, 2) := by decide +kernel
theorem dX9_takeShort_71 : decode cX9_takeShort 71 = .ok (.if_icmp .ge 91, 3) := by decide +kernel
theorem dX9_takeShort_74 : decode cX9_takeShort 74 = .ok (.aload_n 0, 1) := by decide +kernel
theorem dX9_takeShort_75 : decode cX9_takeShort 75 = .ok (.getfield 178, 3) := by decide +kernel
theorem dX9_takeShort_78 : decode cX9_takeShort 78 = .ok (.sipush 200, 3) := by decide +kernel
theorem dX9_takeShort_81 : decode cX9_takeShort 81 = .ok (.if_icmp .gt 81, 3) := by decide +kernel
theorem dX9_takeShort_84 : decode cX9_takeShort 84 = .ok (.iconst 0, 1) := by decide +kernel
theorem dX9_takeShort_85 : decode cX9_takeShort 85 = .ok (.istore 7, 2) := by decide +kernel
theorem dX9_takeShort_87 : decode cX9_takeShort 87 = .ok (.iload 7, 2) := by decide +kernel
theorem dX9_takeShort_89 : decode cX9_takeShort 89 = .ok (.aload_n 0, 1) := by decide +kernel
theorem dX9_takeShort_90 : decode cX9_takeShort 90 = .ok (.getfield 127, 3) := by decide +kernel
theorem dX9_takeShort_93 : decode cX9_takeShort 93 = .ok (.if_icmp .ge 63, 3) := by decide +kernel
theorem dX9_takeShort_96 : decode cX9_takeShort 96 = .ok (.aload_n 0, 1) := by decide +kernel
theorem dX9_takeShort_97 : decode cX9_takeShort 97 = .ok (.getfield 178, 3) := by decide +kernel
theorem dX9_takeShort_100 : decode cX9_takeShort 100 = .ok (.sipush 200, 3) := by decide +kernel
theorem dX9_takeShort_103 : decode cX9_takeShort 103 = .ok (.if_icmp .gt 53, 3) := by decide +kernel
theorem dX9_takeShort_106 : decode cX9_takeShort 106 = .ok (.aload_n 0, 1) := by decide +kernel
theorem dX9_takeShort_107 : decode cX9_takeShort 107 = .ok (.iload 6, 2) := by decide +kernel
theorem dX9_takeShort_109 : decode cX9_takeShort 109 = .ok (.bipush 8, 2) := by decide +kernel
theorem dX9_takeShort_111 : decode cX9_takeShort 111 = .ok (.invokevirtual 188, 3) := by decide +kernel
theorem dX9_takeShort_114 : decode cX9_takeShort 114 = .ok (.aload_n 0, 1) := by decide +kernel
theorem dX9_takeShort_115 : decode cX9_takeShort 115 = .ok (.bipush 8, 2) := by decide +kernel
theorem dX9_takeShort_117 : decode cX9_takeShort 117 = .ok (.aload_n 0, 1) := by decide +kernel
theorem dX9_takeShort_118 : decode cX9_takeShort 118 = .ok (.getfield 39, 3) := by decide +kernel
theorem dX9_takeShort_121 : decode cX9_takeShort 121 = .ok (.iload 7, 2) := by decide +kernel
theorem dX9_takeShort_123 : decode cX9_takeShort 123 = .ok (.iaload, 1) := by decide +kernel
theorem dX9_takeShort_124 : decode cX9_takeShort 124 = .ok (.invokevirtual 144, 3) := by decide +kernel
theorem dX9_takeShort_127 : decode cX9_takeShort 127 = .ok (.aload_n 0, 1) := by decide +kernel
theorem dX9_takeShort_128 : decode cX9_takeShort 128 = .ok (.getfield 32, 3) := by decide +kernel
theorem dX9_takeShort_131 : decode cX9_takeShort 131 = .ok (.bipush 8, 2) := by decide +kernel
theorem dX9_takeShort_133 : decode cX9_takeShort 133 = .ok (.iaload, 1) := by decide +kernel
theorem dX9_takeShort_134 : decode cX9_takeShort 134 = .ok (.iload 4, 2) := by decide +kernel
theorem dX9_takeShort_136 : decode cX9_takeShort 136 = .ok (.if_icmp .ne 12, 3) := by decide +kernel
theorem dX9_takeShort_139 : decode cX9_takeShort 139 = .ok (.aload_n 0, 1) := by decide +kernel
theorem dX9_takeShort_140 : decode cX9_takeShort 140 = .ok (.bipush 8, 2) := by decide +kernel
theorem dX9_takeShort_142 : decode cX9_takeShort 142 = .ok (.invokevirtual 191, 3) := by decide +kernel
theorem dX9_takeShort_145 : decode cX9_takeShort 145 = .ok (.goto 4, 3) := by decide +kernel
theorem dX9_takeShort_148 : decode cX9_takeShort 148 = .ok (.iload_n 2, 1) := by decide +kernel
theorem dX9_takeShort_149 : decode cX9_takeShort 149 = .ok (.istore_n 2, 1) := by decide +kernel
theorem dX9_takeShort_150 : decode cX9_takeShort 150 = .ok (.iinc 7 1, 3) := by decide +kernel
theorem dX9_takeShort_153 : decode cX9_takeShort 153 = .ok (.goto (-66), 3) := by decide +kernel
theorem dX9_takeShort_156 : decode cX9_takeShort 156 = .ok (.iinc 6 1, 3) := by decide +kernel
theorem dX9_takeShort_159 : decode cX9_takeShort 159 = .ok (.goto (-92), 3) := by decide +kernel
theorem dX9_takeShort_162 : decode cX9_takeShort 162 = .ok (.iload 5, 2) := by decide +kernel
theorem dX9_takeShort_164 : decode cX9_takeShort 164 = .ok (.istore_n 3, 1) := by decide +kernel
theorem dX9_takeShort_165 : decode cX9_takeShort 165 = .ok (.iinc 4 1, 3) := by decide +kernel
theorem dX9_takeShort_168 : decode cX9_takeShort 168 = .ok (.goto (-116), 3) := by decide +kernel
theorem dX9_takeShort_171 : decode cX9_takeShort 171 = .ok (.aload_n 0, 1) := by decide +kernel
theorem dX9_takeShort_172 : decode cX9_takeShort 172 = .ok (.getfield 178, 3) := by decide +kernel
theorem dX9_takeShort_175 : decode cX9_takeShort 175 = .ok (.sipush 200, 3) := by decide +kernel
theorem dX9_takeShort_178 : decode cX9_takeShort 178 = .ok (.if_icmp .le 8, 3) := by decide +kernel
theorem dX9_takeShort_181 : decode cX9_takeShort 181 = .ok (.bipush (-7), 2) := by decide +kernel
theorem dX9_takeShort_183 : decode cX9_takeShort 183 = .ok (.goto 4, 3) := by decide +kernel
theorem dX9_takeShort_186 : decode cX9_takeShort 186 = .ok (.iconst 0, 1) := by decide +kernel
theorem dX9_takeShort_187 : decode cX9_takeShort 187 = .ok (.ireturn, 1) := by decide +kernel
theorem dX9_growth_0 : decode cX9_growth 0 = .ok (.aload_n 0, 1) := by decide +kernel
theorem dX9_growth_1 : decode cX9_growth 1 = .ok (.iload_n 1, 1) := by decide +kernel
theorem dX9_growth_2 : decode cX9_growth 2 = .ok (.invokevirtual 293, 3) := by decide +kernel
theorem dX9_growth_5 : decode cX9_growth 5 = .ok (.istore_n 2, 1) := by decide +kernel
theorem dX9_growth_6 : decode cX9_growth 6 = .ok (.iload_n 2, 1) := by decide +kernel
theorem dX9_growth_7 : decode cX9_growth 7 = .ok (.ifCond .eq 5, 3) := by decide +kernel
theorem dX9_growth_10 : decode cX9_growth 10 = .ok (.iload_n 2, 1) := by decide +kernel
theorem dX9_growth_11 : decode cX9_growth 11 = .ok (.ireturn, 1) := by decide +kernel
theorem dX9_growth_12 : decode cX9_growth 12 = .ok (.aload_n 0, 1) := by decide +kernel
theorem dX9_growth_13 : decode cX9_growth 13 = .ok (.invokevirtual 209, 3) := by decide +kernel
theorem dX9_growth_16 : decode cX9_growth 16 = .ok (.istore_n 3, 1) := by decide +kernel
theorem dX9_growth_17 : decode cX9_growth 17 = .ok (.aload_n 0, 1) := by decide +kernel
theorem dX9_growth_18 : decode cX9_growth 18 = .ok (.invokevirtual 212, 3) := by decide +kernel
theorem dX9_growth_21 : decode cX9_growth 21 = .ok (.ireturn, 1) := by decide +kernel
theorem dX9_findLaw_0 : decode cX9_findLaw 0 = .ok (.aload_n 0, 1) := by decide +kernel
theorem dX9_findLaw_1 : decode cX9_findLaw 1 = .ok (.invokevirtual 209, 3) := by decide +kernel
theorem dX9_findLaw_4 : decode cX9_findLaw 4 = .ok (.istore_n 2, 1) := by decide +kernel
theorem dX9_findLaw_5 : decode cX9_findLaw 5 = .ok (.aload_n 0, 1) := by decide +kernel
theorem dX9_findLaw_6 : decode cX9_findLaw 6 = .ok (.invokevirtual 212, 3) := by decide +kernel
theorem dX9_findLaw_9 : decode cX9_findLaw 9 = .ok (.istore_n 3, 1) := by decide +kernel
theorem dX9_findLaw_10 : decode cX9_findLaw 10 = .ok (.iconst 0, 1) := by decide +kernel
theorem dX9_findLaw_11 : decode cX9_findLaw 11 = .ok (.istore 4, 2) := by decide +kernel
theorem dX9_findLaw_13 : decode cX9_findLaw 13 = .ok (.iconst 1, 1) := by decide +kernel
theorem dX9_findLaw_14 : decode cX9_findLaw 14 = .ok (.istore 5, 2) := by decide +kernel
theorem dX9_findLaw_16 : decode cX9_findLaw 16 = .ok (.iload 5, 2) := by decide +kernel
theorem dX9_findLaw_18 : decode cX9_findLaw 18 = .ok (.aload_n 0, 1) := by decide +kernel
theorem dX9_findLaw_19 : decode cX9_findLaw 19 = .ok (.getfield 178, 3) := by decide +kernel
theorem dX9_findLaw_22 : decode cX9_findLaw 22 = .ok (.if_icmp .ge 37, 3) := by decide +kernel
theorem dX9_findLaw_25 : decode cX9_findLaw 25 = .ok (.aload_n 0, 1) := by decide +kernel
theorem dX9_findLaw_26 : decode cX9_findLaw 26 = .ok (.getfield 60, 3) := by decide +kernel
theorem dX9_findLaw_29 : decode cX9_findLaw 29 = .ok (.iload 5, 2) := by decide +kernel
theorem dX9_findLaw_31 : decode cX9_findLaw 31 = .ok (.iaload, 1) := by decide +kernel
theorem dX9_findLaw_32 : decode cX9_findLaw 32 = .ok (.aload_n 0, 1) := by decide +kernel
theorem dX9_findLaw_33 : decode cX9_findLaw 33 = .ok (.getfield 60, 3) := by decide +kernel
theorem dX9_findLaw_36 : decode cX9_findLaw 36 = .ok (.iconst 0, 1) := by decide +kernel
theorem dX9_findLaw_37 : decode cX9_findLaw 37 = .ok (.iaload, 1) := by decide +kernel
theorem dX9_findLaw_38 : decode cX9_findLaw 38 = .ok (.if_icmp .ne 15, 3) := by decide +kernel
theorem dX9_findLaw_41 : decode cX9_findLaw 41 = .ok (.iload 4, 2) := by decide +kernel
theorem dX9_findLaw_43 : decode cX9_findLaw 43 = .ok (.iload_n 1, 1) := by decide +kernel
theorem dX9_findLaw_44 : decode cX9_findLaw 44 = .ok (.if_icmp .ne 6, 3) := by decide +kernel
theorem dX9_findLaw_47 : decode cX9_findLaw 47 = .ok (.iload 5, 2) := by decide +kernel
theorem dX9_findLaw_49 : decode cX9_findLaw 49 = .ok (.ireturn, 1) := by decide +kernel
theorem dX9_findLaw_50 : decode cX9_findLaw 50 = .ok (.iinc 4 1, 3) := by decide +kernel
theorem dX9_findLaw_53 : decode cX9_findLaw 53 = .ok (.iinc 5 1, 3) := by decide +kernel
theorem dX9_findLaw_56 : decode cX9_findLaw 56 = .ok (.goto (-40), 3) := by decide +kernel
theorem dX9_findLaw_59 : decode cX9_findLaw 59 = .ok (.iconst (-1), 1) := by decide +kernel
theorem dX9_findLaw_60 : decode cX9_findLaw 60 = .ok (.iload 4, 2) := by decide +kernel
theorem dX9_findLaw_62 : decode cX9_findLaw 62 = .ok (.isub, 1) := by decide +kernel
theorem dX9_findLaw_63 : decode cX9_findLaw 63 = .ok (.ireturn, 1) := by decide +kernel
theorem dX9_laws_0 : decode cX9_laws 0 = .ok (.aload_n 0, 1) := by decide +kernel
theorem dX9_laws_1 : decode cX9_laws 1 = .ok (.iload_n 1, 1) := by decide +kernel
theorem dX9_laws_2 : decode cX9_laws 2 = .ok (.invokevirtual 293, 3) := by decide +kernel
theorem dX9_laws_5 : decode cX9_laws 5 = .ok (.istore_n 2, 1) := by decide +kernel
theorem dX9_laws_6 : decode cX9_laws 6 = .ok (.iload_n 2, 1) := by decide +kernel
theorem dX9_laws_7 : decode cX9_laws 7 = .ok (.ifCond .eq 7, 3) := by decide +kernel
theorem dX9_laws_10 : decode cX9_laws 10 = .ok (.iload_n 2, 1) := by decide +kernel
theorem dX9_laws_11 : decode cX9_laws 11 = .ok (.goto 10, 3) := by decide +kernel
theorem dX9_laws_14 : decode cX9_laws 14 = .ok (.iconst (-1), 1) := by decide +kernel
theorem dX9_laws_15 : decode cX9_laws 15 = .ok (.aload_n 0, 1) := by decide +kernel
theorem dX9_laws_16 : decode cX9_laws 16 = .ok (.iconst (-1), 1) := by decide +kernel
theorem dX9_laws_17 : decode cX9_laws 17 = .ok (.invokevirtual 296, 3) := by decide +kernel
theorem dX9_laws_20 : decode cX9_laws 20 = .ok (.isub, 1) := by decide +kernel
theorem dX9_laws_21 : decode cX9_laws 21 = .ok (.ireturn, 1) := by decide +kernel
theorem dX9_law_0 : decode cX9_law 0 = .ok (.iload_n 3, 1) := by decide +kernel
theorem dX9_law_1 : decode cX9_law 1 = .ok (.invokestatic 137, 3) := by decide +kernel
theorem dX9_law_4 : decode cX9_law 4 = .ok (.ifCond .ne 5, 3) := by decide +kernel
theorem dX9_law_7 : decode cX9_law 7 = .ok (.iconst (-1), 1) := by decide +kernel
theorem dX9_law_8 : decode cX9_law 8 = .ok (.ireturn, 1) := by decide +kernel
theorem dX9_law_9 : decode cX9_law 9 = .ok (.aload_n 0, 1) := by decide +kernel
theorem dX9_law_10 : decode cX9_law 10 = .ok (.iload_n 1, 1) := by decide +kernel
theorem dX9_law_11 : decode cX9_law 11 = .ok (.invokevirtual 293, 3) := by decide +kernel
theorem dX9_law_14 : decode cX9_law 14 = .ok (.istore 4, 2) := by decide +kernel
theorem dX9_law_16 : decode cX9_law 16 = .ok (.iload 4, 2) := by decide +kernel
theorem dX9_law_18 : decode cX9_law 18 = .ok (.ifCond .eq 6, 3) := by decide +kernel
theorem dX9_law_21 : decode cX9_law 21 = .ok (.iload 4, 2) := by decide +kernel
theorem dX9_law_23 : decode cX9_law 23 = .ok (.ireturn, 1) := by decide +kernel
theorem dX9_law_24 : decode cX9_law 24 = .ok (.aload_n 0, 1) := by decide +kernel
theorem dX9_law_25 : decode cX9_law 25 = .ok (.iload_n 2, 1) := by decide +kernel
theorem dX9_law_26 : decode cX9_law 26 = .ok (.invokevirtual 296, 3) := by decide +kernel
theorem dX9_law_29 : decode cX9_law 29 = .ok (.istore 5, 2) := by decide +kernel
theorem dX9_law_31 : decode cX9_law 31 = .ok (.iload 5, 2) := by decide +kernel
theorem dX9_law_33 : decode cX9_law 33 = .ok (.ifCond .ge 6, 3) := by decide +kernel
theorem dX9_law_36 : decode cX9_law 36 = .ok (.bipush (-8), 2) := by decide +kernel
theorem dX9_law_38 : decode cX9_law 38 = .ok (.ireturn, 1) := by decide +kernel
theorem dX9_law_39 : decode cX9_law 39 = .ok (.aload_n 0, 1) := by decide +kernel
theorem dX9_law_40 : decode cX9_law 40 = .ok (.iload 5, 2) := by decide +kernel
theorem dX9_law_42 : decode cX9_law 42 = .ok (.iload_n 3, 1) := by decide +kernel
theorem dX9_law_43 : decode cX9_law 43 = .ok (.invokevirtual 188, 3) := by decide +kernel
theorem dX9_law_46 : decode cX9_law 46 = .ok (.aload_n 0, 1) := by decide +kernel
theorem dX9_law_47 : decode cX9_law 47 = .ok (.getfield 32, 3) := by decide +kernel
theorem dX9_law_50 : decode cX9_law 50 = .ok (.iload_n 3, 1) := by decide +kernel
theorem dX9_law_51 : decode cX9_law 51 = .ok (.iaload, 1) := by decide +kernel
theorem dX9_law_52 : decode cX9_law 52 = .ok (.ireturn, 1) := by decide +kernel
theorem dX9_falls_0 : decode cX9_falls 0 = .ok (.aload_n 0, 1) := by decide +kernel
theorem dX9_falls_1 : decode cX9_falls 1 = .ok (.iload_n 1, 1) := by decide +kernel
theorem dX9_falls_2 : decode cX9_falls 2 = .ok (.invokevirtual 191, 3) := by decide +kernel
theorem dX9_falls_5 : decode cX9_falls 5 = .ok (.istore_n 2, 1) := by decide +kernel
theorem dX9_falls_6 : decode cX9_falls 6 = .ok (.aload_n 0, 1) := by decide +kernel
theorem dX9_falls_7 : decode cX9_falls 7 = .ok (.getfield 185, 3) := by decide +kernel
theorem dX9_falls_10 : decode cX9_falls 10 = .ok (.aload_n 0, 1) := by decide +kernel
theorem dX9_falls_11 : decode cX9_falls 11 = .ok (.getfield 178, 3) := by decide +kernel
theorem dX9_falls_14 : decode cX9_falls 14 = .ok (.if_icmp .ge 17, 3) := by decide +kernel
theorem dX9_falls_17 : decode cX9_falls 17 = .ok (.aload_n 0, 1) := by decide +kernel
theorem dX9_falls_18 : decode cX9_falls 18 = .ok (.invokevirtual 209, 3) := by decide +kernel
theorem dX9_falls_21 : decode cX9_falls 21 = .ok (.ifCond .ne 5, 3) := by decide +kernel
theorem dX9_falls_24 : decode cX9_falls 24 = .ok (.iconst 0, 1) := by decide +kernel
theorem dX9_falls_25 : decode cX9_falls 25 = .ok (.ireturn, 1) := by decide +kernel
theorem dX9_falls_26 : decode cX9_falls 26 = .ok (.aload_n 0, 1) := by decide +kernel
theorem dX9_falls_27 : decode cX9_falls 27 = .ok (.invokevirtual 212, 3) := by decide +kernel
theorem dX9_falls_30 : decode cX9_falls 30 = .ok (.istore_n 3, 1) := by decide +kernel
theorem dX9_falls_31 : decode cX9_falls 31 = .ok (.iconst 0, 1) := by decide +kernel
theorem dX9_falls_32 : decode cX9_falls 32 = .ok (.istore_n 3, 1) := by decide +kernel
theorem dX9_falls_33 : decode cX9_falls 33 = .ok (.iconst 0, 1) := by decide +kernel
theorem dX9_falls_34 : decode cX9_falls 34 = .ok (.istore 4, 2) := by decide +kernel
theorem dX9_falls_36 : decode cX9_falls 36 = .ok (.iload 4, 2) := by decide +kernel
theorem dX9_falls_38 : decode cX9_falls 38 = .ok (.aload_n 0, 1) := by decide +kernel
theorem dX9_falls_39 : decode cX9_falls 39 = .ok (.getfield 299, 3) := by decide +kernel
theorem dX9_falls_42 : decode cX9_falls 42 = .ok (.if_icmp .ge 40, 3) := by decide +kernel
theorem dX9_falls_45 : decode cX9_falls 45 = .ok (.iload_n 3, 1) := by decide +kernel
theorem dX9_falls_46 : decode cX9_falls 46 = .ok (.ifCond .ne 24, 3) := by decide +kernel
theorem dX9_falls_49 : decode cX9_falls 49 = .ok (.aload_n 0, 1) := by decide +kernel
theorem dX9_falls_50 : decode cX9_falls 50 = .ok (.getfield 60, 3) := by decide +kernel
theorem dX9_falls_53 : decode cX9_falls 53 = .ok (.aload_n 0, 1) := by decide +kernel
theorem dX9_falls_54 : decode cX9_falls 54 = .ok (.getfield 94, 3) := by decide +kernel
theorem dX9_falls_57 : decode cX9_falls 57 = .ok (.iload 4, 2) := by decide +kernel
theorem dX9_falls_59 : decode cX9_falls 59 = .ok (.iaload, 1) := by decide +kernel
theorem dX9_falls_60 : decode cX9_falls 60 = .ok (.iaload, 1) := by decide +kernel
theorem dX9_falls_61 : decode cX9_falls 61 = .ok (.aload_n 0, 1) := by decide +kernel
theorem dX9_falls_62 : decode cX9_falls 62 = .ok (.getfield 60, 3) := by decide +kernel
theorem dX9_falls_65 : decode cX9_falls 65 = .ok (.iload_n 2, 1) := by decide +kernel
theorem dX9_falls_66 : decode cX9_falls 66 = .ok (.iaload, 1) := by decide +kernel
theorem dX9_falls_67 : decode cX9_falls 67 = .ok (.if_icmp .ne 7, 3) := by decide +kernel
theorem dX9_falls_70 : decode cX9_falls 70 = .ok (.iconst 1, 1) := by decide +kernel
theorem dX9_falls_71 : decode cX9_falls 71 = .ok (.goto 4, 3) := by decide +kernel
theorem dX9_falls_74 : decode cX9_falls 74 = .ok (.iconst 0, 1) := by decide +kernel
theorem dX9_falls_75 : decode cX9_falls 75 = .ok (.istore_n 3, 1) := by decide +kernel
theorem dX9_falls_76 : decode cX9_falls 76 = .ok (.iinc 4 1, 3) := by decide +kernel
theorem dX9_falls_79 : decode cX9_falls 79 = .ok (.goto (-43), 3) := by decide +kernel
theorem dX9_falls_82 : decode cX9_falls 82 = .ok (.iload_n 3, 1) := by decide +kernel
theorem dX9_falls_83 : decode cX9_falls 83 = .ok (.ifCond .ne 34, 3) := by decide +kernel
theorem dX9_falls_86 : decode cX9_falls 86 = .ok (.aload_n 0, 1) := by decide +kernel
theorem dX9_falls_87 : decode cX9_falls 87 = .ok (.getfield 299, 3) := by decide +kernel
theorem dX9_falls_90 : decode cX9_falls 90 = .ok (.bipush 20, 2) := by decide +kernel
theorem dX9_falls_92 : decode cX9_falls 92 = .ok (.if_icmp .ne 5, 3) := by decide +kernel
theorem dX9_falls_95 : decode cX9_falls 95 = .ok (.iconst 0, 1) := by decide +kernel
theorem dX9_falls_96 : decode cX9_falls 96 = .ok (.ireturn, 1) := by decide +kernel
theorem dX9_falls_97 : decode cX9_falls 97 = .ok (.aload_n 0, 1) := by decide +kernel
theorem dX9_falls_98 : decode cX9_falls 98 = .ok (.getfield 94, 3) := by decide +kernel
theorem dX9_falls_101 : decode cX9_falls 101 = .ok (.aload_n 0, 1) := by decide +kernel
theorem dX9_falls_102 : decode cX9_falls 102 = .ok (.getfield 299, 3) := by decide +kernel
theorem dX9_falls_105 : decode cX9_falls 105 = .ok (.iload_n 2, 1) := by decide +kernel
theorem dX9_falls_106 : decode cX9_falls 106 = .ok (.iastore, 1) := by decide +kernel
theorem dX9_falls_107 : decode cX9_falls 107 = .ok (.aload_n 0, 1) := by decide +kernel
theorem dX9_falls_108 : decode cX9_falls 108 = .ok (.dup, 1) := by decide +kernel
theorem dX9_falls_109 : decode cX9_falls 109 = .ok (.getfield 299, 3) := by decide +kernel
theorem dX9_falls_112 : decode cX9_falls 112 = .ok (.iconst 1, 1) := by decide +kernel
theorem dX9_falls_113 : decode cX9_falls 113 = .ok (.iadd, 1) := by decide +kernel
theorem dX9_falls_114 : decode cX9_falls 114 = .ok (.putfield 299, 3) := by decide +kernel
theorem dX9_falls_117 : decode cX9_falls 117 = .ok (.iconst 1, 1) := by decide +kernel
theorem dX9_falls_118 : decode cX9_falls 118 = .ok (.ireturn, 1) := by decide +kernel
theorem dX9_beginFall_0 : decode cX9_beginFall 0 = .ok (.aload_n 0, 1) := by decide +kernel
theorem dX9_beginFall_1 : decode cX9_beginFall 1 = .ok (.invokevirtual 130, 3) := by decide +kernel
theorem dX9_beginFall_4 : decode cX9_beginFall 4 = .ok (.aload_n 0, 1) := by decide +kernel
theorem dX9_beginFall_5 : decode cX9_beginFall 5 = .ok (.invokevirtual 200, 3) := by decide +kernel
theorem dX9_beginFall_8 : decode cX9_beginFall 8 = .ok (.aload_n 0, 1) := by decide +kernel
theorem dX9_beginFall_9 : decode cX9_beginFall 9 = .ok (.getfield 32, 3) := by decide +kernel
theorem dX9_beginFall_12 : decode cX9_beginFall 12 = .ok (.bipush 8, 2) := by decide +kernel
theorem dX9_beginFall_14 : decode cX9_beginFall 14 = .ok (.iconst 0, 1) := by decide +kernel
theorem dX9_beginFall_15 : decode cX9_beginFall 15 = .ok (.iastore, 1) := by decide +kernel
theorem dX9_beginFall_16 : decode cX9_beginFall 16 = .ok (.aload_n 0, 1) := by decide +kernel
theorem dX9_beginFall_17 : decode cX9_beginFall 17 = .ok (.getfield 94, 3) := by decide +kernel
theorem dX9_beginFall_20 : decode cX9_beginFall 20 = .ok (.iconst 0, 1) := by decide +kernel
theorem dX9_beginFall_21 : decode cX9_beginFall 21 = .ok (.aload_n 0, 1) := by decide +kernel
theorem dX9_beginFall_22 : decode cX9_beginFall 22 = .ok (.bipush 8, 2) := by decide +kernel
theorem dX9_beginFall_24 : decode cX9_beginFall 24 = .ok (.invokevirtual 191, 3) := by decide +kernel
theorem dX9_beginFall_27 : decode cX9_beginFall 27 = .ok (.iastore, 1) := by decide +kernel
theorem dX9_beginFall_28 : decode cX9_beginFall 28 = .ok (.aload_n 0, 1) := by decide +kernel
theorem dX9_beginFall_29 : decode cX9_beginFall 29 = .ok (.iconst 1, 1) := by decide +kernel
theorem dX9_beginFall_30 : decode cX9_beginFall 30 = .ok (.putfield 299, 3) := by decide +kernel
theorem dX9_beginFall_33 : decode cX9_beginFall 33 = .ok (.iconst 0, 1) := by decide +kernel
theorem dX9_beginFall_34 : decode cX9_beginFall 34 = .ok (.istore_n 1, 1) := by decide +kernel
theorem dX9_beginFall_35 : decode cX9_beginFall 35 = .ok (.iload_n 1, 1) := by decide +kernel
theorem dX9_beginFall_36 : decode cX9_beginFall 36 = .ok (.aload_n 0, 1) := by decide +kernel
theorem dX9_beginFall_37 : decode cX9_beginFall 37 = .ok (.getfield 127, 3) := by decide +kernel
theorem dX9_beginFall_40 : decode cX9_beginFall 40 = .ok (.if_icmp .ge 54, 3) := by decide +kernel
theorem dX9_beginFall_43 : decode cX9_beginFall 43 = .ok (.aload_n 0, 1) := by decide +kernel
theorem dX9_beginFall_44 : decode cX9_beginFall 44 = .ok (.getfield 32, 3) := by decide +kernel
theorem dX9_beginFall_47 : decode cX9_beginFall 47 = .ok (.bipush 8, 2) := by decide +kernel
theorem dX9_beginFall_49 : decode cX9_beginFall 49 = .ok (.iconst 0, 1) := by decide +kernel
theorem dX9_beginFall_50 : decode cX9_beginFall 50 = .ok (.iastore, 1) := by decide +kernel
theorem dX9_beginFall_51 : decode cX9_beginFall 51 = .ok (.aload_n 0, 1) := by decide +kernel
theorem dX9_beginFall_52 : decode cX9_beginFall 52 = .ok (.bipush 8, 2) := by decide +kernel
theorem dX9_beginFall_54 : decode cX9_beginFall 54 = .ok (.aload_n 0, 1) := by decide +kernel
theorem dX9_beginFall_55 : decode cX9_beginFall 55 = .ok (.getfield 39, 3) := by decide +kernel
theorem dX9_beginFall_58 : decode cX9_beginFall 58 = .ok (.iload_n 1, 1) := by decide +kernel
theorem dX9_beginFall_59 : decode cX9_beginFall 59 = .ok (.iaload, 1) := by decide +kernel
theorem dX9_beginFall_60 : decode cX9_beginFall 60 = .ok (.invokevirtual 144, 3) := by decide +kernel
theorem dX9_beginFall_63 : decode cX9_beginFall 63 = .ok (.aload_n 0, 1) := by decide +kernel
theorem dX9_beginFall_64 : decode cX9_beginFall 64 = .ok (.getfield 94, 3) := by decide +kernel
theorem dX9_beginFall_67 : decode cX9_beginFall 67 = .ok (.aload_n 0, 1) := by decide +kernel
theorem dX9_beginFall_68 : decode cX9_beginFall 68 = .ok (.getfield 299, 3) := by decide +kernel
theorem dX9_beginFall_71 : decode cX9_beginFall 71 = .ok (.aload_n 0, 1) := by decide +kernel
theorem dX9_beginFall_72 : decode cX9_beginFall 72 = .ok (.bipush 8, 2) := by decide +kernel
theorem dX9_beginFall_74 : decode cX9_beginFall 74 = .ok (.invokevirtual 191, 3) := by decide +kernel
theorem dX9_beginFall_77 : decode cX9_beginFall 77 = .ok (.iastore, 1) := by decide +kernel
theorem dX9_beginFall_78 : decode cX9_beginFall 78 = .ok (.aload_n 0, 1) := by decide +kernel
theorem dX9_beginFall_79 : decode cX9_beginFall 79 = .ok (.dup, 1) := by decide +kernel
theorem dX9_beginFall_80 : decode cX9_beginFall 80 = .ok (.getfield 299, 3) := by decide +kernel
theorem dX9_beginFall_83 : decode cX9_beginFall 83 = .ok (.iconst 1, 1) := by decide +kernel
theorem dX9_beginFall_84 : decode cX9_beginFall 84 = .ok (.iadd, 1) := by decide +kernel
theorem dX9_beginFall_85 : decode cX9_beginFall 85 = .ok (.putfield 299, 3) := by decide +kernel
theorem dX9_beginFall_88 : decode cX9_beginFall 88 = .ok (.iinc 1 1, 3) := by decide +kernel
theorem dX9_beginFall_91 : decode cX9_beginFall 91 = .ok (.goto (-56), 3) := by decide +kernel
theorem dX9_beginFall_94 : decode cX9_beginFall 94 = .ok (.aload_n 0, 1) := by decide +kernel
theorem dX9_beginFall_95 : decode cX9_beginFall 95 = .ok (.invokevirtual 209, 3) := by decide +kernel
theorem dX9_beginFall_98 : decode cX9_beginFall 98 = .ok (.istore_n 1, 1) := by decide +kernel
theorem dX9_beginFall_99 : decode cX9_beginFall 99 = .ok (.iload_n 1, 1) := by decide +kernel
theorem dX9_beginFall_100 : decode cX9_beginFall 100 = .ok (.ifCond .eq 10, 3) := by decide +kernel
theorem dX9_beginFall_103 : decode cX9_beginFall 103 = .ok (.aload_n 0, 1) := by decide +kernel
theorem dX9_beginFall_104 : decode cX9_beginFall 104 = .ok (.invokevirtual 212, 3) := by decide +kernel
theorem dX9_beginFall_107 : decode cX9_beginFall 107 = .ok (.goto 4, 3) := by decide +kernel
theorem dX9_beginFall_110 : decode cX9_beginFall 110 = .ok (.iconst 0, 1) := by decide +kernel
theorem dX9_beginFall_111 : decode cX9_beginFall 111 = .ok (.istore_n 2, 1) := by decide +kernel
theorem dX9_beginFall_112 : decode cX9_beginFall 112 = .ok (.iload_n 1, 1) := by decide +kernel
theorem dX9_beginFall_113 : decode cX9_beginFall 113 = .ok (.ireturn, 1) := by decide +kernel
theorem dX9_fallsAll_0 : decode cX9_fallsAll 0 = .ok (.iload_n 1, 1) := by decide +kernel
theorem dX9_fallsAll_1 : decode cX9_fallsAll 1 = .ok (.iconst 1, 1) := by decide +kernel
theorem dX9_fallsAll_2 : decode cX9_fallsAll 2 = .ok (.if_icmp .ne 10, 3) := by decide +kernel
theorem dX9_fallsAll_5 : decode cX9_fallsAll 5 = .ok (.aload_n 0, 1) := by decide +kernel
theorem dX9_fallsAll_6 : decode cX9_fallsAll 6 = .ok (.getfield 19, 3) := by decide +kernel
theorem dX9_fallsAll_9 : decode cX9_fallsAll 9 = .ok (.goto 12, 3) := by decide +kernel
theorem dX9_fallsAll_12 : decode cX9_fallsAll 12 = .ok (.aload_n 0, 1) := by decide +kernel
theorem dX9_fallsAll_13 : decode cX9_fallsAll 13 = .ok (.getfield 19, 3) := by decide +kernel
theorem dX9_fallsAll_16 : decode cX9_fallsAll 16 = .ok (.aload_n 0, 1) := by decide +kernel
theorem dX9_fallsAll_17 : decode cX9_fallsAll 17 = .ok (.getfield 19, 3) := by decide +kernel
theorem dX9_fallsAll_20 : decode cX9_fallsAll 20 = .ok (.imul, 1) := by decide +kernel
theorem dX9_fallsAll_21 : decode cX9_fallsAll 21 = .ok (.istore_n 2, 1) := by decide +kernel
theorem dX9_fallsAll_22 : decode cX9_fallsAll 22 = .ok (.iconst 0, 1) := by decide +kernel
theorem dX9_fallsAll_23 : decode cX9_fallsAll 23 = .ok (.istore_n 3, 1) := by decide +kernel
theorem dX9_fallsAll_24 : decode cX9_fallsAll 24 = .ok (.iload_n 3, 1) := by decide +kernel
theorem dX9_fallsAll_25 : decode cX9_fallsAll 25 = .ok (.aload_n 0, 1) := by decide +kernel
theorem dX9_fallsAll_26 : decode cX9_fallsAll 26 = .ok (.getfield 299, 3) := by decide +kernel
theorem dX9_fallsAll_29 : decode cX9_fallsAll 29 = .ok (.if_icmp .ge 140, 3) := by decide +kernel
theorem dX9_fallsAll_32 : decode cX9_fallsAll 32 = .ok (.iconst 0, 1) := by decide +kernel
theorem dX9_fallsAll_33 : decode cX9_fallsAll 33 = .ok (.istore 4, 2) := by decide +kernel
theorem dX9_fallsAll_35 : decode cX9_fallsAll 35 = .ok (.iload 4, 2) := by decide +kernel
theorem dX9_fallsAll_37 : decode cX9_fallsAll 37 = .ok (.aload_n 0, 1) := by decide +kernel
theorem dX9_fallsAll_38 : decode cX9_fallsAll 38 = .ok (.getfield 127, 3) := by decide +kernel
theorem dX9_fallsAll_41 : decode cX9_fallsAll 41 = .ok (.if_icmp .ge 122, 3) := by decide +kernel
theorem dX9_fallsAll_44 : decode cX9_fallsAll 44 = .ok (.aload_n 0, 1) := by decide +kernel
theorem dX9_fallsAll_45 : decode cX9_fallsAll 45 = .ok (.aload_n 0, 1) := by decide +kernel
theorem dX9_fallsAll_46 : decode cX9_fallsAll 46 = .ok (.getfield 94, 3) := by decide +kernel
theorem dX9_fallsAll_49 : decode cX9_fallsAll 49 = .ok (.iload_n 3, 1) := by decide +kernel
theorem dX9_fallsAll_50 : decode cX9_fallsAll 50 = .ok (.iaload, 1) := by decide +kernel
theorem dX9_fallsAll_51 : decode cX9_fallsAll 51 = .ok (.bipush 8, 2) := by decide +kernel
theorem dX9_fallsAll_53 : decode cX9_fallsAll 53 = .ok (.invokevirtual 188, 3) := by decide +kernel
theorem dX9_fallsAll_56 : decode cX9_fallsAll 56 = .ok (.aload_n 0, 1) := by decide +kernel
theorem dX9_fallsAll_57 : decode cX9_fallsAll 57 = .ok (.bipush 8, 2) := by decide +kernel
theorem dX9_fallsAll_59 : decode cX9_fallsAll 59 = .ok (.aload_n 0, 1) := by decide +kernel
theorem dX9_fallsAll_60 : decode cX9_fallsAll 60 = .ok (.getfield 39, 3) := by decide +kernel
theorem dX9_fallsAll_63 : decode cX9_fallsAll 63 = .ok (.iload 4, 2) := by decide +kernel
theorem dX9_fallsAll_65 : decode cX9_fallsAll 65 = .ok (.iaload, 1) := by decide +kernel
theorem dX9_fallsAll_66 : decode cX9_fallsAll 66 = .ok (.invokevirtual 144, 3) := by decide +kernel
theorem dX9_fallsAll_69 : decode cX9_fallsAll 69 = .ok (.aload_n 0, 1) := by decide +kernel
theorem dX9_fallsAll_70 : decode cX9_fallsAll 70 = .ok (.getfield 32, 3) := by decide +kernel
theorem dX9_fallsAll_73 : decode cX9_fallsAll 73 = .ok (.bipush 8, 2) := by decide +kernel
theorem dX9_fallsAll_75 : decode cX9_fallsAll 75 = .ok (.iaload, 1) := by decide +kernel
theorem dX9_fallsAll_76 : decode cX9_fallsAll 76 = .ok (.bipush 16, 2) := by decide +kernel
theorem dX9_fallsAll_78 : decode cX9_fallsAll 78 = .ok (.if_icmp .le 5, 3) := by decide +kernel
theorem dX9_fallsAll_81 : decode cX9_fallsAll 81 = .ok (.iconst 0, 1) := by decide +kernel
theorem dX9_fallsAll_82 : decode cX9_fallsAll 82 = .ok (.ireturn, 1) := by decide +kernel
theorem dX9_fallsAll_83 : decode cX9_fallsAll 83 = .ok (.iconst 0, 1) := by decide +kernel
theorem dX9_fallsAll_84 : decode cX9_fallsAll 84 = .ok (.istore 5, 2) := by decide +kernel
theorem dX9_fallsAll_86 : decode cX9_fallsAll 86 = .ok (.iload 5, 2) := by decide +kernel
theorem dX9_fallsAll_88 : decode cX9_fallsAll 88 = .ok (.iload_n 2, 1) := by decide +kernel
theorem dX9_fallsAll_89 : decode cX9_fallsAll 89 = .ok (.if_icmp .ge 68, 3) := by decide +kernel
theorem dX9_fallsAll_92 : decode cX9_fallsAll 92 = .ok (.aload_n 0, 1) := by decide +kernel
theorem dX9_fallsAll_93 : decode cX9_fallsAll 93 = .ok (.aload_n 0, 1) := by decide +kernel
theorem dX9_fallsAll_94 : decode cX9_fallsAll 94 = .ok (.getfield 94, 3) := by decide +kernel
theorem dX9_fallsAll_97 : decode cX9_fallsAll 97 = .ok (.iload_n 3, 1) := by decide +kernel
theorem dX9_fallsAll_98 : decode cX9_fallsAll 98 = .ok (.iaload, 1) := by decide +kernel
theorem dX9_fallsAll_99 : decode cX9_fallsAll 99 = .ok (.bipush 8, 2) := by decide +kernel
theorem dX9_fallsAll_101 : decode cX9_fallsAll 101 = .ok (.invokevirtual 188, 3) := by decide +kernel
theorem dX9_fallsAll_104 : decode cX9_fallsAll 104 = .ok (.aload_n 0, 1) := by decide +kernel
theorem dX9_fallsAll_105 : decode cX9_fallsAll 105 = .ok (.bipush 8, 2) := by decide +kernel
theorem dX9_fallsAll_107 : decode cX9_fallsAll 107 = .ok (.aload_n 0, 1) := by decide +kernel
theorem dX9_fallsAll_108 : decode cX9_fallsAll 108 = .ok (.getfield 39, 3) := by decide +kernel
theorem dX9_fallsAll_111 : decode cX9_fallsAll 111 = .ok (.iload 4, 2) := by decide +kernel
theorem dX9_fallsAll_113 : decode cX9_fallsAll 113 = .ok (.iaload, 1) := by decide +kernel
theorem dX9_fallsAll_114 : decode cX9_fallsAll 114 = .ok (.invokevirtual 144, 3) := by decide +kernel
theorem dX9_fallsAll_117 : decode cX9_fallsAll 117 = .ok (.aload_n 0, 1) := by decide +kernel
theorem dX9_fallsAll_118 : decode cX9_fallsAll 118 = .ok (.iload 5, 2) := by decide +kernel
theorem dX9_fallsAll_120 : decode cX9_fallsAll 120 = .ok (.iload_n 1, 1) := by decide +kernel
theorem dX9_fallsAll_121 : decode cX9_fallsAll 121 = .ok (.invokevirtual 229, 3) := by decide +kernel
theorem dX9_fallsAll_124 : decode cX9_fallsAll 124 = .ok (.aload_n 0, 1) := by decide +kernel
theorem dX9_fallsAll_125 : decode cX9_fallsAll 125 = .ok (.bipush 8, 2) := by decide +kernel
theorem dX9_fallsAll_127 : decode cX9_fallsAll 127 = .ok (.bipush 9, 2) := by decide +kernel
theorem dX9_fallsAll_129 : decode cX9_fallsAll 129 = .ok (.invokevirtual 175, 3) := by decide +kernel
theorem dX9_fallsAll_132 : decode cX9_fallsAll 132 = .ok (.aload_n 0, 1) := by decide +kernel
theorem dX9_fallsAll_133 : decode cX9_fallsAll 133 = .ok (.bipush 8, 2) := by decide +kernel
theorem dX9_fallsAll_135 : decode cX9_fallsAll 135 = .ok (.bipush 9, 2) := by decide +kernel
theorem dX9_fallsAll_137 : decode cX9_fallsAll 137 = .ok (.invokevirtual 140, 3) := by decide +kernel
theorem dX9_fallsAll_140 : decode cX9_fallsAll 140 = .ok (.aload_n 0, 1) := by decide +kernel
theorem dX9_fallsAll_141 : decode cX9_fallsAll 141 = .ok (.bipush 8, 2) := by decide +kernel
theorem dX9_fallsAll_143 : decode cX9_fallsAll 143 = .ok (.invokevirtual 302, 3) := by decide +kernel
theorem dX9_fallsAll_146 : decode cX9_fallsAll 146 = .ok (.ifCond .ne 5, 3) := by decide +kernel
theorem dX9_fallsAll_149 : decode cX9_fallsAll 149 = .ok (.iconst 0, 1) := by decide +kernel
theorem dX9_fallsAll_150 : decode cX9_fallsAll 150 = .ok (.ireturn, 1) := by decide +kernel
theorem dX9_fallsAll_151 : decode cX9_fallsAll 151 = .ok (.iinc 5 1, 3) := by decide +kernel
theorem dX9_fallsAll_154 : decode cX9_fallsAll 154 = .ok (.goto (-68), 3) := by decide +kernel
theorem dX9_fallsAll_157 : decode cX9_fallsAll 157 = .ok (.iinc 4 1, 3) := by decide +kernel
theorem dX9_fallsAll_160 : decode cX9_fallsAll 160 = .ok (.goto (-125), 3) := by decide +kernel
theorem dX9_fallsAll_163 : decode cX9_fallsAll 163 = .ok (.iinc 3 1, 3) := by decide +kernel
theorem dX9_fallsAll_166 : decode cX9_fallsAll 166 = .ok (.goto (-142), 3) := by decide +kernel
theorem dX9_fallsAll_169 : decode cX9_fallsAll 169 = .ok (.iconst 1, 1) := by decide +kernel
theorem dX9_fallsAll_170 : decode cX9_fallsAll 170 = .ok (.ireturn, 1) := by decide +kernel
theorem dX9_fall_0 : decode cX9_fall 0 = .ok (.iload_n 1, 1) := by decide +kernel
theorem dX9_fall_1 : decode cX9_fall 1 = .ok (.i2l, 1) := by decide +kernel
theorem dX9_fall_2 : decode cX9_fall 2 = .ok (.lconst 1, 1) := by decide +kernel
theorem dX9_fall_3 : decode cX9_fall 3 = .ok (.ldc2_w 109, 3) := by decide +kernel
theorem dX9_fall_6 : decode cX9_fall 6 = .ok (.invokestatic 99, 3) := by decide +kernel
theorem dX9_fall_9 : decode cX9_fall 9 = .ok (.ifCond .ne 5, 3) := by decide +kernel
theorem dX9_fall_12 : decode cX9_fall 12 = .ok (.iconst (-1), 1) := by decide +kernel
theorem dX9_fall_13 : decode cX9_fall 13 = .ok (.ireturn, 1) := by decide +kernel
theorem dX9_fall_14 : decode cX9_fall 14 = .ok (.aload_n 0, 1) := by decide +kernel
theorem dX9_fall_15 : decode cX9_fall 15 = .ok (.invokevirtual 133, 3) := by decide +kernel
theorem dX9_fall_18 : decode cX9_fall 18 = .ok (.ifCond .ne 6, 3) := by decide +kernel
theorem dX9_fall_21 : decode cX9_fall 21 = .ok (.bipush (-5), 2) := by decide +kernel
theorem dX9_fall_23 : decode cX9_fall 23 = .ok (.ireturn, 1) := by decide +kernel
theorem dX9_fall_24 : decode cX9_fall 24 = .ok (.aload_n 0, 1) := by decide +kernel
theorem dX9_fall_25 : decode cX9_fall 25 = .ok (.invokevirtual 305, 3) := by decide +kernel
theorem dX9_fall_28 : decode cX9_fall 28 = .ok (.ifCond .eq 18, 3) := by decide +kernel
theorem dX9_fall_31 : decode cX9_fall 31 = .ok (.aload_n 0, 1) := by decide +kernel
theorem dX9_fall_32 : decode cX9_fall 32 = .ok (.iload_n 1, 1) := by decide +kernel
theorem dX9_fall_33 : decode cX9_fall 33 = .ok (.invokevirtual 308, 3) := by decide +kernel
theorem dX9_fall_36 : decode cX9_fall 36 = .ok (.ifCond .eq 10, 3) := by decide +kernel
theorem dX9_fall_39 : decode cX9_fall 39 = .ok (.aload_n 0, 1) := by decide +kernel
theorem dX9_fall_40 : decode cX9_fall 40 = .ok (.getfield 299, 3) := by decide +kernel
theorem dX9_fall_43 : decode cX9_fall 43 = .ok (.goto 5, 3) := by decide +kernel
theorem dX9_fall_46 : decode cX9_fall 46 = .ok (.bipush (-7), 2) := by decide +kernel
theorem dX9_fall_48 : decode cX9_fall 48 = .ok (.ireturn, 1) := by decide +kernel
theorem dX9_fallen_0 : decode cX9_fallen 0 = .ok (.iload_n 3, 1) := by decide +kernel
theorem dX9_fallen_1 : decode cX9_fallen 1 = .ok (.invokestatic 137, 3) := by decide +kernel
theorem dX9_fallen_4 : decode cX9_fallen 4 = .ok (.ifCond .ne 5, 3) := by decide +kernel
theorem dX9_fallen_7 : decode cX9_fallen 7 = .ok (.iconst (-1), 1) := by decide +kernel
theorem dX9_fallen_8 : decode cX9_fallen 8 = .ok (.ireturn, 1) := by decide +kernel
theorem dX9_fallen_9 : decode cX9_fallen 9 = .ok (.aload_n 0, 1) := by decide +kernel
theorem dX9_fallen_10 : decode cX9_fallen 10 = .ok (.iload_n 1, 1) := by decide +kernel
theorem dX9_fallen_11 : decode cX9_fallen 11 = .ok (.invokevirtual 311, 3) := by decide +kernel
theorem dX9_fallen_14 : decode cX9_fallen 14 = .ok (.istore 4, 2) := by decide +kernel
theorem dX9_fallen_16 : decode cX9_fallen 16 = .ok (.iload 4, 2) := by decide +kernel
theorem dX9_fallen_18 : decode cX9_fallen 18 = .ok (.ifCond .ge 6, 3) := by decide +kernel
theorem dX9_fallen_21 : decode cX9_fallen 21 = .ok (.iload 4, 2) := by decide +kernel
theorem dX9_fallen_23 : decode cX9_fallen 23 = .ok (.ireturn, 1) := by decide +kernel
theorem dX9_fallen_24 : decode cX9_fallen 24 = .ok (.iload_n 2, 1) := by decide +kernel
theorem dX9_fallen_25 : decode cX9_fallen 25 = .ok (.i2l, 1) := by decide +kernel
theorem dX9_fallen_26 : decode cX9_fallen 26 = .ok (.lconst 0, 1) := by decide +kernel
theorem dX9_fallen_27 : decode cX9_fallen 27 = .ok (.iload 4, 2) := by decide +kernel
theorem dX9_fallen_29 : decode cX9_fallen 29 = .ok (.iconst 1, 1) := by decide +kernel
theorem dX9_fallen_30 : decode cX9_fallen 30 = .ok (.isub, 1) := by decide +kernel
theorem dX9_fallen_31 : decode cX9_fallen 31 = .ok (.i2l, 1) := by decide +kernel
theorem dX9_fallen_32 : decode cX9_fallen 32 = .ok (.invokestatic 99, 3) := by decide +kernel
theorem dX9_fallen_35 : decode cX9_fallen 35 = .ok (.ifCond .ne 6, 3) := by decide +kernel
theorem dX9_fallen_38 : decode cX9_fallen 38 = .ok (.bipush (-8), 2) := by decide +kernel
theorem dX9_fallen_40 : decode cX9_fallen 40 = .ok (.ireturn, 1) := by decide +kernel
theorem dX9_fallen_41 : decode cX9_fallen 41 = .ok (.aload_n 0, 1) := by decide +kernel
theorem dX9_fallen_42 : decode cX9_fallen 42 = .ok (.aload_n 0, 1) := by decide +kernel
theorem dX9_fallen_43 : decode cX9_fallen 43 = .ok (.getfield 94, 3) := by decide +kernel
theorem dX9_fallen_46 : decode cX9_fallen 46 = .ok (.iload_n 2, 1) := by decide +kernel
theorem dX9_fallen_47 : decode cX9_fallen 47 = .ok (.iaload, 1) := by decide +kernel
theorem dX9_fallen_48 : decode cX9_fallen 48 = .ok (.iload_n 3, 1) := by decide +kernel
theorem dX9_fallen_49 : decode cX9_fallen 49 = .ok (.invokevirtual 188, 3) := by decide +kernel
theorem dX9_fallen_52 : decode cX9_fallen 52 = .ok (.aload_n 0, 1) := by decide +kernel
theorem dX9_fallen_53 : decode cX9_fallen 53 = .ok (.getfield 32, 3) := by decide +kernel
theorem dX9_fallen_56 : decode cX9_fallen 56 = .ok (.iload_n 3, 1) := by decide +kernel
theorem dX9_fallen_57 : decode cX9_fallen 57 = .ok (.iaload, 1) := by decide +kernel
theorem dX9_fallen_58 : decode cX9_fallen 58 = .ok (.ireturn, 1) := by decide +kernel
end
section
section XK
variable {G : xG} {F : xM} {Q : xQT} {pc : Nat} {lv : xL} {st : List Value} {I : xI} {J : xJ}
theorem xEnt_pad (av : List Value) (n i : Nat) (v : Value) (h : (xEnt av ++ List.replicate n none)[i]? = some (some v)) : (xEnt av)[i]? = some (some v) := by
  by_cases hi : i < (xEnt av).length
  · rwa [List.getElem?_append_left hi] at h
  · rw [List.getElem?_append_right (by omega), List.getElem?_replicate] at h
    split at h <;> cases h
/-- a contract by its body, the locals being the arguments, then none -/
theorem x_ent {av : List Value} {post : Option Value → xI → xJ → Prop} (hy : plainName F.1.cls = true) (hn : (lg_sl av).length ≤ F.2.2.1) (hc : F.2.2.2.2.2 = (0, 0)) (h : xT G F (xMQ G post) 0 (xEnt av ++ List.replicate (F.2.2.1 - (xEnt av).length) none) [] I J) : xCon G F av I J post := x_enter _ hy hn hc (fun i v h => xEnt_pad av _ i v h) h
theorem xT.sub {lv' : xL} (hs : ∀ (i : Nat) (v : Value), lv'[i]? = some (some v) → lv[i]? = some (some v)) (k : xT G F Q pc lv' st I J) : xT G F Q pc lv st I J := fun p l e s m args below meth c A C H locs ls hl hP hS => k p l e s m args below meth c A C H locs ls (xhas_of hl (fun i v h => (xal_mem lv 0 (i, v)).mpr ⟨Nat.zero_le _, hs i v h⟩)) hP hS
theorem xr_getIv {k ci ix j : Nat} {fs : List xs_F} {v : Int32} (hd : decode F.2.1 pc = .ok (.getfield ix, 3)) (hw : xlk F.1.cls ix ci j) (hl : lay k = .inl (ci, fs)) (hj : fs[j]? = some (.inr false)) (hv : I k j = v) (kk : xT G F Q (pc + 3) lv (.int v :: st) I J) : xT G F Q pc lv (.ref (G.1 k) :: st) I J := xr_getI hd hw hl hj (by rw [hv]; exact kk)
theorem xr_getJv {k ci ix j : Nat} {fs : List xs_F} {v : Int64} (hd : decode F.2.1 pc = .ok (.getfield ix, 3)) (hw : xlk F.1.cls ix ci j) (hl : lay k = .inl (ci, fs)) (hj : fs[j]? = some (.inr true)) (hv : J k j = v) (kk : xT G F Q (pc + 3) lv (.long v :: st) I J) : xT G F Q pc lv (.ref (G.1 k) :: st) I J := xr_getJ hd hw hl hj (by rw [hv]; exact kk)
theorem xr_ialdv {k n : Nat} {rf : Nat → Nat} {i v : Int32} (j : Nat) (hd : decode F.2.1 pc = .ok (.iaload, 1)) (hl : lay k = .inr (0, n, rf)) (hi : i = nI j) (hj : j < n) (hn : n < 2 ^ 31) (hv : I k j = v) (kk : xT G F Q (pc + 1) lv (.int v :: st) I J) : xT G F Q pc lv (.int i :: .ref (G.1 k) :: st) I J := xr_iald j hd hl hi hj hn (by rw [hv]; exact kk)
theorem xr_laldv {k n : Nat} {rf : Nat → Nat} {i : Int32} {v : Int64} (j : Nat) (hd : decode F.2.1 pc = .ok (.laload, 1)) (hl : lay k = .inr (1, n, rf)) (hi : i = nI j) (hj : j < n) (hn : n < 2 ^ 31) (hv : J k j = v) (kk : xT G F Q (pc + 1) lv (.long v :: st) I J) : xT G F Q pc lv (.int i :: .ref (G.1 k) :: st) I J := xr_lald j hd hl hi hj hn (by rw [hv]; exact kk)
theorem xr_top {x y : Int32} (h : x = y) (k : xT G F Q pc lv (.int y :: st) I J) : xT G F Q pc lv (.int x :: st) I J := h ▸ k
theorem xr_topl {x y : Int64} (h : x = y) (k : xT G F Q pc lv (.long y :: st) I J) : xT G F Q pc lv (.long x :: st) I J := h ▸ k
theorem xr_cVi {F' : xM} {ix b n ci : Nat} {fs : List xs_F} {sp : xs_F} {st0 : List Value} {post : Int32 → xI → xJ → Prop} (As : List Value) (hd : decode F.2.1 pc = .ok (.invokevirtual ix, 3)) (hw : xcv F F' ix n) (hn : As.length = n) (hl : lay b = .inl (ci, fs)) (hj : fs[0]? = some sp) (hc0 : (xcl[ci]?).map (fun q => q.1) = some F'.1.cls) (hst : st0 = As.reverse ++ .ref (G.1 b) :: st) (hrm : (st.map fun v => v.category).sum ≤ 8) (hc : xCon G F' (.ref (G.1 b) :: As) I J (xpi post)) (kk : ∀ v I' J', post v I' J' → xT G F Q (pc + 3) lv (.int v :: st) I' J') : xT G F Q pc lv st0 I J :=
  xr_callV As hd hw hn hl hc0 (lay_lt_o hl hj) hst hrm hc (fun r I' J' h => by obtain ⟨v, rfl, h⟩ := h; exact kk v I' J' h)
theorem xr_cVl {F' : xM} {ix b n ci : Nat} {fs : List xs_F} {sp : xs_F} {st0 : List Value} {post : Int64 → xI → xJ → Prop} (As : List Value) (hd : decode F.2.1 pc = .ok (.invokevirtual ix, 3)) (hw : xcv F F' ix n) (hn : As.length = n) (hl : lay b = .inl (ci, fs)) (hj : fs[0]? = some sp) (hc0 : (xcl[ci]?).map (fun q => q.1) = some F'.1.cls) (hst : st0 = As.reverse ++ .ref (G.1 b) :: st) (hrm : (st.map fun v => v.category).sum ≤ 8) (hc : xCon G F' (.ref (G.1 b) :: As) I J (xpl post)) (kk : ∀ v I' J', post v I' J' → xT G F Q (pc + 3) lv (.long v :: st) I' J') : xT G F Q pc lv st0 I J :=
  xr_callV As hd hw hn hl hc0 (lay_lt_o hl hj) hst hrm hc (fun r I' J' h => by obtain ⟨v, rfl, h⟩ := h; exact kk v I' J' h)
theorem xr_cVv {F' : xM} {ix b n ci : Nat} {fs : List xs_F} {sp : xs_F} {st0 : List Value} {post : xI → xJ → Prop} (As : List Value) (hd : decode F.2.1 pc = .ok (.invokevirtual ix, 3)) (hw : xcv F F' ix n) (hn : As.length = n) (hl : lay b = .inl (ci, fs)) (hj : fs[0]? = some sp) (hc0 : (xcl[ci]?).map (fun q => q.1) = some F'.1.cls) (hst : st0 = As.reverse ++ .ref (G.1 b) :: st) (hrm : (st.map fun v => v.category).sum ≤ 8) (hc : xCon G F' (.ref (G.1 b) :: As) I J (xpv post)) (kk : ∀ I' J', post I' J' → xT G F Q (pc + 3) lv st I' J') : xT G F Q pc lv st0 I J :=
  xr_callV As hd hw hn hl hc0 (lay_lt_o hl hj) hst hrm hc (fun r I' J' h => by obtain ⟨rfl, h⟩ := h; exact kk I' J' h)
theorem xr_cSi {F' : xM} {ix n : Nat} {st0 : List Value} {post : Int32 → xI → xJ → Prop} (As : List Value) (hd : decode F.2.1 pc = .ok (.invokestatic ix, 3)) (hw : xcs F F' ix n) (hn : As.length = n) (hst : st0 = As.reverse ++ st) (hrm : (st.map fun v => v.category).sum ≤ 8) (hc : xCon G F' As I J (xpi post)) (kk : ∀ v I' J', post v I' J' → xT G F Q (pc + 3) lv (.int v :: st) I' J') : xT G F Q pc lv st0 I J :=
  xr_callS As hd hw hn hst hrm hc (fun r I' J' h => by obtain ⟨v, rfl, h⟩ := h; exact kk v I' J' h)
theorem xr_cSl {F' : xM} {ix n : Nat} {st0 : List Value} {post : Int64 → xI → xJ → Prop} (As : List Value) (hd : decode F.2.1 pc = .ok (.invokestatic ix, 3)) (hw : xcs F F' ix n) (hn : As.length = n) (hst : st0 = As.reverse ++ st) (hrm : (st.map fun v => v.category).sum ≤ 8) (hc : xCon G F' As I J (xpl post)) (kk : ∀ v I' J', post v I' J' → xT G F Q (pc + 3) lv (.long v :: st) I' J') : xT G F Q pc lv st0 I J :=
  xr_callS As hd hw hn hst hrm hc (fun r I' J' h => by obtain ⟨v, rfl, h⟩ := h; exact kk v I' J' h)
theorem xr_cSv {F' : xM} {ix n : Nat} {st0 : List Value} {post : xI → xJ → Prop} (As : List Value) (hd : decode F.2.1 pc = .ok (.invokestatic ix, 3)) (hw : xcs F F' ix n) (hn : As.length = n) (hst : st0 = As.reverse ++ st) (hrm : (st.map fun v => v.category).sum ≤ 8) (hc : xCon G F' As I J (xpv post)) (kk : ∀ I' J', post I' J' → xT G F Q (pc + 3) lv st I' J') : xT G F Q pc lv st0 I J :=
  xr_callS As hd hw hn hst hrm hc (fun r I' J' h => by obtain ⟨rfl, h⟩ := h; exact kk I' J' h)
theorem xr_cG {st0 : List Value} {post : Int32 → xI → xJ → Prop} (As : List Value) (hd : decode F.2.1 pc = .ok (.invokestatic 60, 3)) (hF : F.1.cls = RX3) (hR : xrm F M_X8_isGoal) (hn : As.length = 1) (hst : st0 = As.reverse ++ st) (hrm : (st.map fun v => v.category).sum ≤ 8) (hc : xCon G M_X8_isGoal As I J (xpi post)) (kk : ∀ v I' J', post v I' J' → xT G F Q (pc + 3) lv (.int v :: st) I' J') : xT G F Q pc lv st0 I J :=
  xr_callG As hd hF rfl (xcb_of cf_X8_isGoal.1 hR) cf_X8_isGoal.2 hn hst hrm hc (fun r I' J' h => by obtain ⟨v, rfl, h⟩ := h; exact kk v I' J' h)
-- loops
theorem x_lt {P : Nat → Prop} (h : ∀ n, (∀ m, m < n → P m) → P n) (n : Nat) : P n := Nat.strongRecOn n h
end XK
end
section
theorem k_0 : (0 : Int32) = nI 0 := rfl
theorem k_1 : (1 : Int32) = nI 1 := rfl
theorem k_2 : (2 : Int32) = nI 2 := rfl
theorem k_3 : (3 : Int32) = nI 3 := rfl
theorem k_4 : (4 : Int32) = nI 4 := rfl
theorem k_5 : (5 : Int32) = nI 5 := rfl
theorem k_6 : (6 : Int32) = nI 6 := rfl
theorem k_7 : (7 : Int32) = nI 7 := rfl
theorem k_8 : (8 : Int32) = nI 8 := rfl
theorem k_9 : (9 : Int32) = nI 9 := rfl
theorem k_10 : (10 : Int32) = nI 10 := rfl
theorem k_14 : (14 : Int32) = nI 14 := rfl
theorem k_15 : (15 : Int32) = nI 15 := rfl
theorem k_16 : (16 : Int32) = nI 16 := rfl
theorem k_20 : (20 : Int32) = nI 20 := rfl
theorem k_34 : (34 : Int32) = nI 34 := rfl
theorem k_40 : (40 : Int32) = nI 40 := rfl
theorem k_100 : (100 : Int32) = nI 100 := rfl
theorem k_200 : (200 : Int32) = nI 200 := rfl
theorem k_201 : (201 : Int32) = nI 201 := rfl
theorem k_256 : (256 : Int32) = nI 256 := rfl
theorem k_512 : (512 : Int32) = nI 512 := rfl
theorem k_3000 : (3000 : Int32) = nI 3000 := rfl
theorem k_8192 : (8192 : Int32) = nI 8192 := rfl
def b2 (b : Bool) : Int32 := cond b 1 0
theorem b2_t : b2 true = 1 := rfl
theorem b2_f : b2 false = 0 := rfl
theorem b2_01 (b : Bool) : b2 b = 0 ∨ b2 b = 1 := by cases b <;> simp [b2]
theorem b2_0 {b : Bool} : b2 b = 0 ↔ b = false := by cases b <;> simp [b2]
theorem b2_1 {b : Bool} : b2 b = 1 ↔ b = true := by cases b <;> simp [b2]
theorem b2_P {P : Prop} [Decidable P] (h : P) : (1 : Int32) = b2 (decide P) := by simp [b2, h]
theorem b2_N {P : Prop} [Decidable P] (h : ¬ P) : (0 : Int32) = b2 (decide P) := by simp [b2, h]
/-- an int of a place, or -1 -/
def oI (g : Option Nat) : Int32 := match g with
  | none => -1
  | some n => nI n
theorem up_same {α : Type} (f : Nat → α) (k : Nat) (v : α) : va_up f k v k = v := va_up_self f k v
theorem upd_same (f : Nat → Int32) (k : Nat) (v : Int32) : upd f k v k = v := by simp [upd]
theorem upd_ne (f : Nat → Int32) {k j : Nat} (v : Int32) (h : j ≠ k) : upd f k v j = f j := by simp [upd, h]
theorem x_for {P : Nat → Prop} {n : Nat} (h : ∀ i, i ≤ n → (i < n → P (i + 1)) → P i) : ∀ i, i ≤ n → P i := by
  have key : ∀ d i, i + d = n → P i := by
    intro d
    induction d with
    | zero => exact fun i hi => h i (by omega) (fun q => by omega)
    | succ d IH => exact fun i hi => h i (by omega) (fun _ => IH (i + 1) (by omega))
  exact fun i hi => key (n - i) i (by omega)
/-- downwards -/
theorem x_fod {P : Nat → Prop} (h0 : P 0) (h : ∀ i, P i → P (i + 1)) : ∀ i, P i := fun i => Nat.rec h0 h i
theorem nle {a b : Nat} (h : nI a ≥ nI b) (ha : a < 2 ^ 31 := by omega) (hb : b < 2 ^ 31 := by omega) : b ≤ a := (nI_leI hb ha).mp h
theorem nlt {a b : Nat} (h : ¬ nI a ≥ nI b) (ha : a < 2 ^ 31 := by omega) (hb : b < 2 ^ 31 := by omega) : a < b := Nat.not_le.mp (fun q => h ((nI_leI hb ha).mpr q))
theorem nltl {a b : Nat} (h : nI a < nI b) (ha : a < 2 ^ 31 := by omega) (hb : b < 2 ^ 31 := by omega) : a < b := (nI_ltI ha hb).mp h
theorem nnlt {a b : Nat} (h : ¬ nI a < nI b) (ha : a < 2 ^ 31 := by omega) (hb : b < 2 ^ 31 := by omega) : b ≤ a := Nat.not_lt.mp (fun q => h ((nI_ltI ha hb).mpr q))
theorem oI_neg {o : Option Nat} (h : oI o < 0) (hs : ∀ g, o = some g → g < 2 ^ 31) : o = none := by
  cases o with
  | none => rfl
  | some g => exact absurd h (nI_pos (hs g rfl))
theorem oI_pos {o : Option Nat} (h : ¬ oI o < 0) : ∃ g, o = some g := by
  cases o with
  | none => exact absurd (by decide) h
  | some g => exact ⟨g, rfl⟩
end
section
/-! the machine as mathematics: letters K, states n, what a state writes, where it goes -/
abbrev xMac : Type := Nat × Nat × (Nat → Nat → Nat) × (Nat → Nat → Option Nat)
abbrev mK (M : xMac) : Nat := M.1
abbrev mN (M : xMac) : Nat := M.2.1
abbrev mWr (M : xMac) : Nat → Nat → Nat := M.2.2.1
abbrev mGo (M : xMac) : Nat → Nat → Option Nat := M.2.2.2
/-- the machine keeps its bounds -/
def mOk (M : xMac) : Prop := 2 ≤ mK M ∧ mK M ≤ 4 ∧ mN M ≤ 8 ∧ ∀ s x, s < mN M → x < mK M → mWr M s x < mK M ∧ ∀ g, mGo M s x = some g → g < 8
def mFair (M : xMac) (t : Nat) : Prop := ∀ x y, x < mK M → y < x → mWr M t x ≠ mWr M t y
/-- a set of states that is closed, all there, all fair -/
def mClo (M : xMac) (S : Nat → Prop) : Prop := ∀ t, S t → t < mN M ∧ mFair M t ∧ ∀ x, x < mK M → ∀ g, mGo M t x = some g → S g
def mBack (M : xMac) (s : Nat) : Prop := ∃ S : Nat → Prop, S s ∧ mClo M S
noncomputable def mB (M : xMac) (s : Nat) : Bool := @decide (mBack M s) (Classical.propDecidable _)
theorem mB_iff {M : xMac} {s : Nat} : mB M s = true ↔ mBack M s := by simp [mB]
theorem mB_f {M : xMac} {s : Nat} : mB M s = false ↔ ¬ mBack M s := by simp [mB]
def mWhole (M : xMac) : Prop := ∀ s x, s < mN M → x < mK M → ∀ g, mGo M s x = some g → g < mN M
noncomputable def mW (M : xMac) : Bool := @decide (mWhole M) (Classical.propDecidable _)
theorem mW_iff {M : xMac} : mW M = true ↔ mWhole M := by simp [mW]
theorem mW_f {M : xMac} : mW M = false ↔ ¬ mWhole M := by simp [mW]
theorem mBack.lt {M : xMac} {s : Nat} (h : mBack M s) : s < mN M := by
  obtain ⟨S, h1, h2⟩ := h
  exact (h2 s h1).1
theorem mBack.fair {M : xMac} {s : Nat} (h : mBack M s) : mFair M s := by
  obtain ⟨S, h1, h2⟩ := h
  exact (h2 s h1).2.1
theorem mBack.go {M : xMac} {s x g : Nat} (h : mBack M s) (hx : x < mK M) (hg : mGo M s x = some g) : mBack M g := by
  obtain ⟨S, h1, h2⟩ := h
  exact ⟨S, (h2 s h1).2.2 x hx g hg, h2⟩
/-- the tokens, as marks: twice the state, and one more for the way back -/
noncomputable def mMarks (M : xMac) : List Nat := (List.range (mN M)).flatMap (fun s => if mB M s then [2 * s, 2 * s + 1] else [2 * s])
/-- a mark that there is -/
def mOkm (M : xMac) (m : Nat) : Prop := m / 2 < mN M ∧ (m % 2 = 1 → mBack M (m / 2))
def opp (m : Nat) : Nat := if m % 2 = 0 then m + 1 else m - 1
def tok (m : Nat) : Int32 := if m % 2 = 0 then nI (m / 2 + 1) else - nI (m / 2 + 1)
/-- the letter that a fair state brings to y -/
def mInv (M : xMac) (s y : Nat) : Nat := ((List.range (mK M)).find? (fun x => mWr M s x == y)).getD 0
/-- what a mark writes, and to which mark it goes -/
def mw (M : xMac) (m x : Nat) : Nat := if m % 2 = 0 then mWr M (m / 2) x else mInv M (m / 2) x
def mg (M : xMac) (m x : Nat) : Option Nat := if m % 2 = 0 then (mGo M (m / 2) x).map (fun g => 2 * g) else (mGo M (m / 2) (mInv M (m / 2) x)).map (fun g => 2 * g + 1)
/-- words: lists of marks, the first one first -/
def wpush (w : List Nat) (m : Nat) : List Nat := if w.getLast? = some (opp m) then w.dropLast else w ++ [m]
def wpushO (w : List Nat) (o : Option Nat) : List Nat := match o with
  | none => w
  | some m => wpush w m
def wapp (a b : List Nat) : List Nat := b.foldl wpush a
def wRed (w : List Nat) : Prop := ∀ i, i + 1 < w.length → w[i + 1]? ≠ (w[i]?).map opp
/-- the part at a letter, and the letter that comes out -/
def wpartF (M : xMac) (s : Nat × List Nat) (m : Nat) : Nat × List Nat := (mw M m s.1, wpushO s.2 (mg M m s.1))
def wpartL (M : xMac) (w : List Nat) (x : Nat) : Nat × List Nat := w.foldl (wpartF M) (x, [])
def wpart (M : xMac) (w : List Nat) (x : Nat) : List Nat := (wpartL M w x).2
def wout (M : xMac) (w : List Nat) (x : Nat) : Nat := (wpartL M w x).1
/-- a word whose marks are all there -/
def wOk (M : xMac) (w : List Nat) : Prop := ∀ m ∈ w, mOkm M m
/-- what a mark makes of a row -/
def mact (M : xMac) : Option Nat → List Nat → List Nat
  | _, [] => []
  | none, r => r
  | some m, x :: r => mw M m x :: mact M (mg M m x) r
def wact (M : xMac) (w : List Nat) (r : List Nat) : List Nat := w.foldl (fun r m => mact M (some m) r) r
def rOk (M : xMac) (r : List Nat) : Prop := ∀ x ∈ r, x < mK M
/-- the whole state: sheets, machine, words -/
abbrev xSh : Type := Nat → Option (Nat × Nat × (Nat → Int32))
abbrev xSt : Type := xSh × xMac × (Nat → List Nat)
def casts (kd : Nat) (v : Int32) : Int32 := if kd = 0 then v.toInt8.toInt32 else if kd = 1 then v.toInt16.toInt32 else v
/-- an int that is a number below n -/
def ix (x : Int32) (n : Nat) : Option Nat := if 0 ≤ x.toInt ∧ x.toInt < n then some x.toInt.toNat else none
theorem ix_some {x : Int32} {n j : Nat} (h : ix x n = some j) : j < n ∧ x = nI j := by
  unfold ix at h
  split at h
  · rename_i hh
    cases h
    refine ⟨by omega, ?_⟩
    apply Int32.toInt_inj.mp
    have := Int32.toInt_lt x
    rw [nI_toInt (by omega)]
    omega
  · cases h
theorem ix_none {x : Int32} {n : Nat} (h : ix x n = none) : x < 0 ∨ (n : Int) ≤ x.toInt := by
  unfold ix at h
  split at h
  · cases h
  · rename_i hh
    rw [Int32.lt_iff_toInt_lt]
    simp
    omega
theorem ix_nI {n j : Nat} (h : j < n) (hn : n < 2 ^ 31) : ix (nI j) n = some j := by
  unfold ix
  rw [nI_toInt (by omega), if_pos (by omega)]
  simp
/-- row numbers -/
def rowNum (r : List Nat) : Nat := r.foldl (fun a x => 4 * a + x) 1
end
section
theorem in_ix {x : Int32} {hi : Int64} {n : Nat} (h : hi.toInt = (n : Int) - 1) : decide ((0 : Int64) ≤ x.toInt64 ∧ x.toInt64 ≤ hi) = (ix x n).isSome := by
  unfold ix
  simp only [Int64.le_iff_toInt_le, Int32.toInt_toInt64, h]
  split
  · rename_i hh
    simp
    omega
  · rename_i hh
    simp
    intro q
    omega
theorem is_n {α : Type} {o : Option α} (h : b2 o.isSome = 0) : o = none := by
  cases o with
  | none => rfl
  | some a => simp [b2] at h
theorem is_s {α : Type} {o : Option α} (h : ¬ b2 o.isSome = 0) : ∃ a, o = some a := by
  cases o with
  | none => simp [b2] at h
  | some a => exact ⟨a, rfl⟩
theorem ix_eq {x : Int32} {n j : Nat} (h : j < n) (hx : x = nI j) (hn : n < 2 ^ 31) : ix x n = some j := by rw [hx]; exact ix_nI h hn
-- the reference's picture of the state
def mS1 (I : xI) (r : Nat) (o : Option (Nat × Nat × (Nat → Int32))) : Prop := match o with
  | none => I 79 r = -1
  | some q => q.1 < 3 ∧ q.2.1 ≤ 40 ∧ I 78 r = nI q.1 ∧ I 79 r = nI q.2.1 ∧ ∀ i, i < q.2.1 → I 80 (40 * r + i) = q.2.2 i
def mSh (I : xI) (sh : xSh) : Prop := ∀ r, r < 4 → mS1 I r (sh r)
def mMach (I : xI) (M : xMac) : Prop := mOk M ∧ I 77 3 = nI (mK M) ∧ I 77 4 = nI (mN M) ∧ ∀ s x, s < mN M → x < mK M → I 81 (4 * s + x) = nI (mWr M s x) ∧ I 82 (4 * s + x) = oI (mGo M s x)
def mWd (I : xI) (w : Nat) (ws : List Nat) : Prop := I 84 w = nI ws.length ∧ ∀ i (h : i < ws.length), I 83 (34 * w + i) = tok ws[i]
/-- a word of a spot: at most 16 marks, reduced, each is there -/
def wGood (M : xMac) (w : List Nat) : Prop := w.length ≤ 16 ∧ wRed w ∧ wOk M w
def mSp (I : xI) (M : xMac) (sp : Nat → List Nat) : Prop := ∀ w, w < 8 → mWd I w (sp w) ∧ wGood M (sp w)
def mIv (I : xI) (S : xSt) : Prop := mSh I S.1 ∧ mMach I S.2.1 ∧ mSp I S.2.1 S.2.2
def mfr (I : xI) (J : xJ) (I' : xI) (J' : xJ) : Prop := ∀ a, a < 77 → I' a = I a ∧ J' a = J a
theorem mfr.rf {I : xI} {J : xJ} : mfr I J I J := fun _ _ => ⟨rfl, rfl⟩
theorem mMach.cg {I I' : xI} {M : xMac} (h : mMach I M) (h3 : I' 77 3 = I 77 3) (h4 : I' 77 4 = I 77 4) (h81 : I' 81 = I 81) (h82 : I' 82 = I 82) : mMach I' M := by
  obtain ⟨a, b, c, d⟩ := h
  refine ⟨a, by rw [h3]; exact b, by rw [h4]; exact c, fun s x hs hx => ?_⟩
  rw [h81, h82]
  exact d s x hs hx
theorem mSp.cg {I I' : xI} {M : xMac} {sp : Nat → List Nat} (h : mSp I M sp) (h83 : I' 83 = I 83) (h84 : I' 84 = I 84) : mSp I' M sp := by
  intro w hw
  obtain ⟨⟨a, b⟩, c⟩ := h w hw
  refine ⟨⟨by rw [h84]; exact a, fun i hi => by rw [h83]; exact b i hi⟩, c⟩
theorem mSh.cg {I I' : xI} {sh : xSh} (h : mSh I sh) (h78 : I' 78 = I 78) (h79 : I' 79 = I 79) (h80 : I' 80 = I 80) : mSh I' sh := by
  intro r hr
  have := h r hr
  unfold mS1 at this ⊢
  rw [h78, h79, h80]
  exact this
-- what the calls answer: sheets
def sp_sheet (S : xSt) (r kd n : Int32) : Int32 × xSt := match ix r 4, ix kd 3 with
  | some r, some kd => if n < 0 then (-4, S) else match ix n 41 with
    | none => (-1, S)
    | some n => (1, (va_up S.1 r (some (kd, n, fun _ => 0)), S.2))
  | _, _ => (-1, S)
def sp_cell (S : xSt) (r i v : Int32) : Int32 × xSt := match ix r 4 with
  | none => (-1, S)
  | some r => match S.1 r with
    | none => (-3, S)
    | some q => match ix i q.2.1 with
      | none => (-1, S)
      | some i => (1, (va_up S.1 r (some (q.1, q.2.1, upd q.2.2 i (casts q.1 v))), S.2))
def sp_told (S : xSt) (r i : Int32) : Int32 := match ix r 4 with
  | none => -2147483648
  | some r => match S.1 r with
    | none => -2147483648
    | some q => match ix i q.2.1 with
      | none => -2147483648
      | some i => q.2.2 i
def sp_lose (S : xSt) (r : Int32) : Int32 × xSt := match ix r 4 with
  | none => (-1, S)
  | some r => match S.1 r with
    | none => (-3, S)
    | some _ => (1, (va_up S.1 r none, S.2))
end
section
noncomputable def mF (M : xMac) (t : Nat) : Bool := @decide (mFair M t) (Classical.propDecidable _)
theorem mF_iff {M : xMac} {t : Nat} : mF M t = true ↔ mFair M t := by simp [mF]
theorem b2_iff {b : Bool} {c : Bool} (h : b = true ↔ c = true) : b2 b = b2 c := by cases b <;> cases c <;> simp_all
def w2n (v : Int32) : Nat := v.toInt.toNat
def i2o (v : Int32) : Option Nat := if v < 0 then none else some (w2n v)
theorem w2n_nI {n : Nat} (h : n < 2 ^ 31) : w2n (nI n) = n := by simp [w2n, nI_toInt h]
theorem nI_w2n {v : Int32} (h : ¬ v < 0) : nI (w2n v) = v := by
  apply Int32.toInt_inj.mp
  have h1 := Int32.toInt_lt v
  rw [Int32.lt_iff_toInt_lt] at h
  have h2 : (0 : Int32).toInt = 0 := by decide
  rw [h2] at h
  unfold w2n
  rw [nI_toInt (by omega)]
  omega
theorem oI_i2o {v : Int32} (h : -1 ≤ v) : oI (i2o v) = v := by
  unfold i2o
  by_cases h0 : v < 0
  · rw [if_pos h0]
    have h2 : (0 : Int32).toInt = 0 := by decide
    have h3 : (-1 : Int32).toInt = -1 := by decide
    rw [Int32.lt_iff_toInt_lt, h2] at h0
    rw [Int32.le_iff_toInt_le, h3] at h
    apply Int32.toInt_inj.mp
    show (-1 : Int32).toInt = _
    rw [h3]
    omega
  · rw [if_neg h0]
    exact nI_w2n h0
theorem i2o_oI {o : Option Nat} (h : ∀ g, o = some g → g < 2 ^ 31) : i2o (oI o) = o := by
  cases o with
  | none => rfl
  | some g =>
    have hg := h g rfl
    show i2o (nI g) = some g
    rw [i2o, if_neg (nI_pos hg), w2n_nI hg]
-- letters, states
def sp_letters (S : xSt) (k : Int32) : Int32 × xSt := if 2 ≤ k ∧ k ≤ 4 then (1, (S.1, (w2n k, 0, S.2.1.2.2), fun _ => [])) else (-1, S)
def stW (q : Nat × Nat × (Nat → Int32)) (i x : Nat) : Int32 := if i + 2 * x + 1 < q.2.1 then q.2.2 (i + 2 * x) else nI x
def stG (q : Nat × Nat × (Nat → Int32)) (i x : Nat) : Int32 := if i + 2 * x + 1 < q.2.1 then q.2.2 (i + 2 * x + 1) else -1
/-- letter x of the sheet's pairs from i on may be read -/
def stOk (K : Nat) (q : Nat × Nat × (Nat → Int32)) (i x : Nat) : Prop := 0 ≤ (stW q i x).toInt ∧ (stW q i x).toInt < K ∧ -1 ≤ (stG q i x).toInt ∧ (stG q i x).toInt ≤ 7
noncomputable def stB (K : Nat) (q : Nat × Nat × (Nat → Int32)) (i : Nat) : Bool := @decide (∀ x, x < K → stOk K q i x) (Classical.propDecidable _)
theorem stB_iff {K : Nat} {q : Nat × Nat × (Nat → Int32)} {i : Nat} : stB K q i = true ↔ ∀ x, x < K → stOk K q i x := by simp [stB]
def addSt (M : xMac) (q : Nat × Nat × (Nat → Int32)) (i : Nat) : xMac := (mK M, mN M + 1, fun s x => if s = mN M then w2n (stW q i x) else mWr M s x, fun s x => if s = mN M then i2o (stG q i x) else mGo M s x)
noncomputable def sp_state (S : xSt) (r i : Int32) : Int32 × xSt := match ix r 4 with
  | none => (-1, S)
  | some r => if i < 0 then (-1, S) else match S.1 r with
    | none => (-3, S)
    | some q => if stB (mK S.2.1) q (w2n i) = false then (-1, S) else if mN S.2.1 = 8 then (-2, S) else (nI (mN S.2.1), (S.1, addSt S.2.1 q (w2n i), S.2.2))
def chSt (M : xMac) (s x y : Nat) (t : Option Nat) : xMac := (mK M, mN M, fun s' x' => if s' = s ∧ x' = x then y else mWr M s' x', fun s' x' => if s' = s ∧ x' = x then t else mGo M s' x')
/-- has the word a way back that is none (any more) -/
noncomputable def wLost (M : xMac) (w : List Nat) : Bool := w.any (fun m => m % 2 == 1 && !mB M (m / 2))
noncomputable def sp_change (S : xSt) (s x y t : Int32) : Int32 × xSt := match ix s (mN S.2.1), ix x (mK S.2.1), ix y (mK S.2.1) with
  | some s, some x, some y => if -1 ≤ t ∧ t ≤ 7 then (1, (S.1, chSt S.2.1 s x y (i2o t), fun w => if wLost (chSt S.2.1 s x y (i2o t)) (S.2.2 w) then [] else S.2.2 w)) else (-1, S)
  | _, _, _ => (-1, S)
noncomputable def sp_of (S : xSt) (s x what : Int32) : Int32 := match ix s (mN S.2.1), ix what 3 with
  | some s, some 2 => b2 (mB S.2.1 s)
  | some s, some w => match ix x (mK S.2.1) with
    | none => -2
    | some x => if w = 0 then nI (mWr S.2.1 s x) else oI (mGo S.2.1 s x)
  | _, _ => -2
noncomputable def sp_many (S : xSt) (what : Int32) : Int32 := if what = 0 then nI (mK S.2.1) else if what = 1 then nI (mN S.2.1) else if what = 2 then b2 (mW S.2.1) else if what = 3 then nI (mMarks S.2.1).length else -1
end
section
section M01
variable {G : xG} {I : xI} {J : xJ}
theorem c9_in (v lo hi : Int64) : xCon G M_X9_in [.long v, .long lo, .long hi] I J (xpi fun r I' J' => r = b2 (decide (lo ≤ v ∧ v ≤ hi)) ∧ I = I' ∧ J = J') := by
  refine x_ent (by decide) (Nat.le_of_ble_eq_true rfl) rfl ?_
  show xT _ _ _ _ [_, _, _, _, _, _] _ _ _
  refine xr_lload0 dX9_in_0 rfl ?_
  refine xr_lload2 dX9_in_1 rfl ?_
  refine xr_lcmp dX9_in_2 ?_
  refine xr_if_lt 17 dX9_in_3 (by decide) (fun h => ?_) (fun h => ?_)
  · refine xr_ic0 dX9_in_17 ?_
    refine xr_zret dX9_in_18 rfl rfl (by simp) ⟨b2_N (fun q => absurd h (by rw [lg_cmp_lt]; exact Int64.not_lt.mpr q.1)), rfl, rfl⟩
  · refine xr_lload0 dX9_in_6 rfl ?_
    refine xr_lload dX9_in_7 rfl ?_
    refine xr_lcmp dX9_in_9 ?_
    refine xr_if_gt 17 dX9_in_10 (by decide) (fun h2 => ?_) (fun h2 => ?_)
    · refine xr_ic0 dX9_in_17 ?_
      refine xr_zret dX9_in_18 rfl rfl (by simp) ⟨b2_N (fun q => absurd h2 (fun h2 => absurd ((lg_cmp_gt _ _).mp h2) (Int64.not_lt.mpr q.2))), rfl, rfl⟩
    · refine xr_ic1 dX9_in_13 ?_
      refine xr_goto 18 dX9_in_14 (by decide) ?_
      refine xr_zret dX9_in_18 rfl rfl (by simp) ⟨b2_P ⟨Int64.not_lt.mp (fun q => h ((lg_cmp_lt _ _).mpr q)), Int64.not_lt.mp (fun q => h2 ((lg_cmp_gt _ _).mpr q))⟩, rfl, rfl⟩
theorem c9_isSheet (x : Int32) : xCon G M_X9_isSheet [.int x] I J (xpi fun r I' J' => r = b2 (ix x 4).isSome ∧ I = I' ∧ J = J') := by
  refine x_ent (by decide) (Nat.le_of_ble_eq_true rfl) rfl ?_
  show xT _ _ _ _ [_] _ _ _
  refine xr_iload0 dX9_isSheet_0 rfl ?_
  refine xr_i2l dX9_isSheet_1 ?_
  refine xr_lc0 dX9_isSheet_2 ?_
  refine xr_ldc2 cs_9_97 dX9_isSheet_3 ?_
  refine xr_cSi [_, _, _] dX9_isSheet_6 (xcs_of cf_X9_in ml_9_99 (by decide)) rfl rfl (Nat.le_of_ble_eq_true rfl) (c9_in _ _ _) (fun v I1 J1 h => ?_)
  obtain ⟨rfl, rfl, rfl⟩ := h
  refine xr_zret dX9_isSheet_9 rfl rfl (b2_01 _) ⟨by rw [in_ix (n := 4) (by decide)], rfl, rfl⟩
theorem c9_isSpot (x : Int32) : xCon G M_X9_isSpot [.int x] I J (xpi fun r I' J' => r = b2 (ix x 8).isSome ∧ I = I' ∧ J = J') := by
  refine x_ent (by decide) (Nat.le_of_ble_eq_true rfl) rfl ?_
  show xT _ _ _ _ [_] _ _ _
  refine xr_iload0 dX9_isSpot_0 rfl ?_
  refine xr_i2l dX9_isSpot_1 ?_
  refine xr_lc0 dX9_isSpot_2 ?_
  refine xr_ldc2 cs_9_103 dX9_isSpot_3 ?_
  refine xr_cSi [_, _, _] dX9_isSpot_6 (xcs_of cf_X9_in ml_9_99 (by decide)) rfl rfl (Nat.le_of_ble_eq_true rfl) (c9_in _ _ _) (fun v I1 J1 h => ?_)
  obtain ⟨rfl, rfl, rfl⟩ := h
  refine xr_zret dX9_isSpot_9 rfl rfl (b2_01 _) ⟨by rw [in_ix (n := 8) (by decide)], rfl, rfl⟩
theorem c9_sheet {S : xSt} (r kd n : Int32) (h : mIv I S) : xCon G M_X9_sheet [.ref (G.1 77), .int r, .int kd, .int n] I J (xpi fun v I' J' => v = (sp_sheet S r kd n).1 ∧ mIv I' (sp_sheet S r kd n).2 ∧ mfr I J I' J') := by
  refine x_ent (by decide) (Nat.le_of_ble_eq_true rfl) rfl ?_
  show xT _ _ _ _ [_, _, _, _, _] _ _ _
  refine xr_iload1 dX9_sheet_0 rfl ?_
  refine xr_cSi [_] dX9_sheet_1 (xcs_of cf_X9_isSheet ml_9_105 (by decide)) rfl rfl (Nat.le_of_ble_eq_true rfl) (c9_isSheet _) (fun v I1 J1 hc => ?_)
  obtain ⟨rfl, rfl, rfl⟩ := hc
  refine xr_if_eq 19 dX9_sheet_4 (by decide) (fun hr => ?_) (fun hr => ?_)
  · have hr := is_n hr
    refine xr_icm1 dX9_sheet_19 ?_
    refine xr_iret dX9_sheet_20 rfl rfl ⟨by simp [sp_sheet, hr], by simpa [sp_sheet, hr] using h, mfr.rf⟩
  obtain ⟨r', hr⟩ := is_s hr
  obtain ⟨hr4, rfl⟩ := ix_some hr
  refine xr_iload2 dX9_sheet_7 rfl ?_
  refine xr_i2l dX9_sheet_8 ?_
  refine xr_lc0 dX9_sheet_9 ?_
  refine xr_ldc2 cs_9_109 dX9_sheet_10 ?_
  refine xr_cSi [_, _, _] dX9_sheet_13 (xcs_of cf_X9_in ml_9_99 (by decide)) rfl rfl (Nat.le_of_ble_eq_true rfl) (c9_in _ _ _) (fun v I1 J1 hc => ?_)
  obtain ⟨rfl, rfl, rfl⟩ := hc
  rw [in_ix (n := 3) (by decide)]
  refine xr_if_ne 21 dX9_sheet_16 (by decide) (fun hk => ?_) (fun hk => ?_)
  rotate_left
  · have hk := is_n hk
    refine xr_icm1 dX9_sheet_19 ?_
    refine xr_iret dX9_sheet_20 rfl rfl ⟨by simp [sp_sheet, hr, hk], by simpa [sp_sheet, hr, hk] using h, mfr.rf⟩
  obtain ⟨kd', hk⟩ := is_s hk
  obtain ⟨hk3, rfl⟩ := ix_some hk
  refine xr_iload3 dX9_sheet_21 rfl ?_
  refine xr_if_ge 28 dX9_sheet_22 (by decide) (fun hn => ?_) (fun hn => ?_)
  rotate_left
  · have hn : n < 0 := Int32.not_le.mp hn
    refine xr_bip bi_m4 dX9_sheet_25 ?_
    refine xr_iret dX9_sheet_27 rfl rfl ⟨by simp [sp_sheet, hr, hk, hn], by simpa [sp_sheet, hr, hk, hn] using h, mfr.rf⟩
  have hn : ¬ n < 0 := Int32.not_lt.mpr hn
  refine xr_iload3 dX9_sheet_28 rfl ?_
  refine xr_bip bi_40 dX9_sheet_29 ?_
  refine xr_icmp_le 36 dX9_sheet_31 (by decide) (fun hn2 => ?_) (fun hn2 => ?_)
  rotate_left
  · skip
    have e : ix n 41 = none := by
      cases e : ix n 41 with
      | none => rfl
      | some j =>
        obtain ⟨h1, rfl⟩ := ix_some e
        exact absurd (show nI j ≤ nI 40 from (nI_leI (by omega) (by omega)).mpr (by omega)) hn2
    refine xr_icm1 dX9_sheet_34 ?_
    refine xr_iret dX9_sheet_35 rfl rfl ⟨by simp [sp_sheet, hr, hk, hn, e], by simpa [sp_sheet, hr, hk, hn, e] using h, mfr.rf⟩
  obtain ⟨n', hn40, rfl⟩ := nI_of2 (n := 40) (by decide) hn hn2
  have e : ix (nI n') 41 = some n' := ix_nI (by omega) (by omega)
  refine xr_aload0 dX9_sheet_36 rfl ?_
  refine xr_getR dX9_sheet_37 fk_9_7 lay_77 rfl ?_
  refine xr_iload1 dX9_sheet_40 rfl ?_
  refine xr_iload2 dX9_sheet_41 rfl ?_
  refine xr_iast _ dX9_sheet_42 lay_78 (by (try simp only [k_0, k_1, k_2, k_3, k_4, k_5, k_8, k_16, k_34, k_40, k_200, k_201, k_256, k_512, nI_add, pk_mul]); first | done | rfl) (by omega) (by decide) ?_
  refine xr_aload0 dX9_sheet_43 rfl ?_
  refine xr_getR dX9_sheet_44 fk_9_13 lay_77 rfl ?_
  refine xr_iload1 dX9_sheet_47 rfl ?_
  refine xr_iload3 dX9_sheet_48 rfl ?_
  refine xr_iast _ dX9_sheet_49 lay_79 (by (try simp only [k_0, k_1, k_2, k_3, k_4, k_5, k_8, k_16, k_34, k_40, k_200, k_201, k_256, k_512, nI_add, pk_mul]); first | done | rfl) (by omega) (by decide) ?_
  refine xr_ic0 dX9_sheet_50 ?_
  refine xr_istore dX9_sheet_51 (Nat.le_of_ble_eq_true rfl) ?_
  show xT _ _ _ _ [_, _, _, _, _] _ _ _
  have L : ∀ (d i : Nat) (I1 : xI), d = n' - i → i ≤ n' → (∀ a, a ≠ 78 → a ≠ 79 → a ≠ 80 → I1 a = I a) → I1 78 = upd (I 78) r' (nI kd') → I1 79 = upd (I 79) r' (nI n') → (∀ j, j < i → I1 80 (40 * r' + j) = 0) → (∀ j, j < 40 * r' ∨ 40 * r' + 40 ≤ j → I1 80 j = I 80 j) → xT G M_X9_sheet (xMQ G (xpi fun v I' J' => v = (sp_sheet S (nI r') (nI kd') (nI n')).1 ∧ mIv I' (sp_sheet S (nI r') (nI kd') (nI n')).2 ∧ mfr I J I' J')) 53 [some (.ref (G.1 77)), some (.int (nI r')), some (.int (nI kd')), some (.int (nI n')), some (.int (nI i))] [] I1 J := by
    intro d
    induction d with
    | zero =>
      intro i I1 hd hi ho h78 h79 hz hrest
      have : i = n' := by omega
      subst this
      refine xr_iload dX9_sheet_53 rfl ?_
      refine xr_iload3 dX9_sheet_55 rfl ?_
      refine xr_icmp_ge 78 dX9_sheet_56 (by decide) (fun hb => ?_) (fun hb => ?_)
      · refine xr_ic1 dX9_sheet_78 ?_
        have e2 : sp_sheet S (nI r') (nI kd') (nI i) = (1, (va_up S.1 r' (some (kd', i, fun _ => 0)), S.2)) := by simp [sp_sheet, hr, hk, hn, e]
        refine xr_iret dX9_sheet_79 rfl rfl ⟨by rw [e2], ?_, fun a ha => ⟨ho a (by omega) (by omega) (by omega), rfl⟩⟩
        rw [e2]
        obtain ⟨h1, h2, h3⟩ := h
        refine ⟨fun q hq => ?_, h2.cg (by rw [ho 77 (by decide) (by decide) (by decide)]) (by rw [ho 77 (by decide) (by decide) (by decide)]) (ho 81 (by decide) (by decide) (by decide)) (ho 82 (by decide) (by decide) (by decide)), h3.cg (ho 83 (by decide) (by decide) (by decide)) (ho 84 (by decide) (by decide) (by decide))⟩
        by_cases hqr : q = r'
        · subst hqr
          simp only [va_up, if_pos, mS1]
          exact ⟨hk3, hn40, by rw [h78, upd_same], by rw [h79, upd_same], fun j hj => hz j hj⟩
        · have h0 := h1 q hq
          simp only [va_up, if_neg hqr]
          unfold mS1 at h0 ⊢
          rw [h78, h79, upd_ne _ _ hqr, upd_ne _ _ hqr]
          cases hs : S.1 q with
          | none => rw [hs] at h0; exact h0
          | some o =>
            rw [hs] at h0
            obtain ⟨a1, a2, a3, a4, a5⟩ := h0
            exact ⟨a1, a2, a3, a4, fun j hj => by rw [hrest _ (by omega)]; exact a5 j hj⟩
      · exact absurd (Int32.le_refl _) hb
    | succ d IH =>
      intro i I1 hd hi ho h78 h79 hz hrest
      refine xr_iload dX9_sheet_53 rfl ?_
      refine xr_iload3 dX9_sheet_55 rfl ?_
      refine xr_icmp_ge 78 dX9_sheet_56 (by decide) (fun hb => ?_) (fun hb => ?_)
      · have := (nI_leI (by omega) (by omega)).mp hb
        omega
      · refine xr_aload0 dX9_sheet_59 rfl ?_
        refine xr_getR dX9_sheet_60 fk_9_16 lay_77 rfl ?_
        refine xr_bip bi_40 dX9_sheet_63 ?_
        refine xr_iload1 dX9_sheet_65 rfl ?_
        refine xr_imul dX9_sheet_66 ?_
        refine xr_iload dX9_sheet_67 rfl ?_
        refine xr_iadd dX9_sheet_69 ?_
        refine xr_ic0 dX9_sheet_70 ?_
        refine xr_iast _ dX9_sheet_71 lay_80 (by (try simp only [k_0, k_1, k_2, k_3, k_4, k_5, k_8, k_16, k_34, k_40, k_200, k_201, k_256, k_512, nI_add, pk_mul]); first | done | rfl) (by omega) (by decide) ?_
        refine xr_iinc dX9_sheet_72 rfl ii_1 (Nat.le_of_ble_eq_true rfl) ?_
        show xT _ _ _ _ [_, _, _, _, _] _ _ _
        refine xr_goto 53 dX9_sheet_75 (by decide) ?_
        rw [k_1, nI_add]
        refine IH (i + 1) _ (by omega) (by omega) ?_ ?_ ?_ ?_ ?_
        · intro a h1 h2 h3
          rw [va_up_ne _ _ h3]
          exact ho a h1 h2 h3
        · rw [va_up_ne _ _ (by decide)]; exact h78
        · rw [va_up_ne _ _ (by decide)]; exact h79
        · intro j hj
          rw [up_same]
          by_cases hji : j = i
          · subst hji; rw [upd_same]
          · rw [upd_ne _ _ (by omega)]; exact hz j (by omega)
        · intro j hj
          rw [up_same, upd_ne _ _ (by omega)]
          exact hrest j hj
  have e0 : (0 : Int32) = nI 0 := rfl
  rw [e0]
  refine L n' 0 _ (by omega) (by omega) ?_ ?_ ?_ ?_ ?_
  · intro a h1 h2 h3
    rw [va_up_ne _ _ h2, va_up_ne _ _ h1]
  · rw [va_up_ne _ _ (by decide), up_same]
  · rw [up_same, va_up_ne _ _ (by decide)]
  · intro j hj; omega
  · intro j hj
    rw [va_up_ne _ _ (by decide), va_up_ne _ _ (by decide)]
end M01
end
section
section M02
variable {G : xG} {I : xI} {J : xJ}
theorem c9_cell {S : xSt} (r i v : Int32) (h : mIv I S) : xCon G M_X9_cell [.ref (G.1 77), .int r, .int i, .int v] I J (xpi fun a I' J' => a = (sp_cell S r i v).1 ∧ mIv I' (sp_cell S r i v).2 ∧ mfr I J I' J') := by
  refine x_ent (by decide) (Nat.le_of_ble_eq_true rfl) rfl ?_
  show xT _ _ _ _ [_, _, _, _] _ _ _
  refine xr_iload1 dX9_cell_0 rfl ?_
  refine xr_cSi [_] dX9_cell_1 (xcs_of cf_X9_isSheet ml_9_105 (by decide)) rfl rfl (Nat.le_of_ble_eq_true rfl) (c9_isSheet _) (fun b I1 J1 hc => ?_)
  obtain ⟨rfl, rfl, rfl⟩ := hc
  refine xr_if_ne 9 dX9_cell_4 (by decide) (fun hr => ?_) (fun hr => ?_)
  rotate_left
  · have hr := is_n hr
    refine xr_icm1 dX9_cell_7 ?_
    refine xr_iret dX9_cell_8 rfl rfl ⟨by simp [sp_cell, hr], by simpa [sp_cell, hr] using h, mfr.rf⟩
  obtain ⟨r', hr⟩ := is_s hr
  obtain ⟨hr4, rfl⟩ := ix_some hr
  have h1 := h.1 r' hr4
  refine xr_aload0 dX9_cell_9 rfl ?_
  refine xr_getR dX9_cell_10 fk_9_13 lay_77 rfl ?_
  refine xr_iload1 dX9_cell_13 rfl ?_
  refine xr_iald _ dX9_cell_14 lay_79 (by (try simp only [k_0, k_1, k_2, k_3, k_4, k_5, k_8, k_16, k_34, k_40, k_200, k_201, k_256, k_512, nI_add, pk_mul]); first | done | rfl) (by omega) (by decide) ?_
  cases hs : S.1 r' with
  | none =>
    rw [hs] at h1
    rw [show I 79 r' = -1 from h1]
    refine xr_if_ge 21 dX9_cell_15 (by decide) (fun hn => ?_) (fun hn => ?_)
    · exact absurd hn (by decide)
    · refine xr_bip bi_m3 dX9_cell_18 ?_
      refine xr_iret dX9_cell_20 rfl rfl ⟨by simp [sp_cell, hr, hs], by simpa [sp_cell, hr, hs] using h, mfr.rf⟩
  | some q =>
    rw [hs] at h1
    obtain ⟨a1, a2, a3, a4, a5⟩ := h1
    rw [a4]
    refine xr_if_ge 21 dX9_cell_15 (by decide) (fun hn => ?_) (fun hn => ?_)
    rotate_left
    · exact absurd (nI_pos' (by omega)) hn
    refine xr_iload2 dX9_cell_21 rfl ?_
    refine xr_i2l dX9_cell_22 ?_
    refine xr_lc0 dX9_cell_23 ?_
    refine xr_aload0 dX9_cell_24 rfl ?_
    refine xr_getR dX9_cell_25 fk_9_13 lay_77 rfl ?_
    refine xr_iload1 dX9_cell_28 rfl ?_
    refine xr_ialdv r' dX9_cell_29 lay_79 rfl hr4 (by decide) a4 ?_
    refine xr_ic1 dX9_cell_30 ?_
    refine xr_isub dX9_cell_31 ?_
    refine xr_i2l dX9_cell_32 ?_
    refine xr_cSi [_, _, _] dX9_cell_33 (xcs_of cf_X9_in ml_9_99 (by decide)) rfl rfl (Nat.le_of_ble_eq_true rfl) (c9_in _ _ _) (fun b I1 J1 hc => ?_)
    obtain ⟨rfl, rfl, rfl⟩ := hc
    rw [in_ix (n := q.2.1) (by rw [Int32.toInt_toInt64, k_1, pk_sub_toInt (by omega) (by decide)]; rfl)]
    refine xr_if_ne 41 dX9_cell_36 (by decide) (fun hi => ?_) (fun hi => ?_)
    rotate_left
    · have hi := is_n hi
      refine xr_icm1 dX9_cell_39 ?_
      refine xr_iret dX9_cell_40 rfl rfl ⟨by simp [sp_cell, hr, hs, hi], by simpa [sp_cell, hr, hs, hi] using h, mfr.rf⟩
    obtain ⟨i', hi⟩ := is_s hi
    obtain ⟨hi4, rfl⟩ := ix_some hi
    have e2 : sp_cell S (nI r') (nI i') v = (1, (va_up S.1 r' (some (q.1, q.2.1, upd q.2.2 i' (casts q.1 v))), S.2)) := by simp [sp_cell, hr, hs, hi]
    have fin : ∀ x : Int32, x = casts q.1 v → xT G M_X9_cell (xMQ G (xpi fun a I' J' => a = (sp_cell S (nI r') (nI i') v).1 ∧ mIv I' (sp_cell S (nI r') (nI i') v).2 ∧ mfr I J I' J')) 81 [some (.ref (G.1 77)), some (.int (nI r')), some (.int (nI i')), some (.int v)] [.int x, .int (40 * nI r' + nI i'), .ref (G.1 80)] I J := by
      intro x hx
      refine xr_iast (40 * r' + i') dX9_cell_81 lay_80 (by simp only [k_40, pk_mul, nI_add]) (by omega) (by decide) ?_
      refine xr_ic1 dX9_cell_82 ?_
      refine xr_iret dX9_cell_83 rfl rfl ⟨by rw [e2], ?_, fun a ha => ⟨by rw [va_up_ne _ _ (by omega)], rfl⟩⟩
      rw [e2]
      obtain ⟨b1, b2, b3⟩ := h
      refine ⟨fun p hp => ?_, b2.cg (by rw [va_up_ne _ _ (by decide)]) (by rw [va_up_ne _ _ (by decide)]) (by rw [va_up_ne _ _ (by decide)]) (by rw [va_up_ne _ _ (by decide)]), b3.cg (by rw [va_up_ne _ _ (by decide)]) (by rw [va_up_ne _ _ (by decide)])⟩
      have b0 := b1 p hp
      unfold mS1 at b0 ⊢
      rw [va_up_ne (k := 80) (j := 78) _ _ (by decide), va_up_ne (k := 80) (j := 79) _ _ (by decide), up_same]
      by_cases hpr : p = r'
      · subst hpr
        simp only [up_same]
        refine ⟨a1, a2, a3, a4, fun j hj => ?_⟩
        by_cases hji : j = i'
        · subst hji
          rw [upd_same, upd_same, hx]
        · rw [upd_ne _ _ (by omega), upd_ne _ _ hji]
          exact a5 j hj
      · simp only [va_up_ne _ _ hpr]
        cases hs2 : S.1 p with
        | none => rw [hs2] at b0; exact b0
        | some o =>
          rw [hs2] at b0
          obtain ⟨c1, c2, c3, c4, c5⟩ := b0
          exact ⟨c1, c2, c3, c4, fun j hj => by rw [upd_ne _ _ (by omega)]; exact c5 j hj⟩
    refine xr_aload0 dX9_cell_41 rfl ?_
    refine xr_getR dX9_cell_42 fk_9_16 lay_77 rfl ?_
    refine xr_bip bi_40 dX9_cell_45 ?_
    refine xr_iload1 dX9_cell_47 rfl ?_
    refine xr_imul dX9_cell_48 ?_
    refine xr_iload2 dX9_cell_49 rfl ?_
    refine xr_iadd dX9_cell_50 ?_
    refine xr_aload0 dX9_cell_51 rfl ?_
    refine xr_getR dX9_cell_52 fk_9_7 lay_77 rfl ?_
    refine xr_iload1 dX9_cell_55 rfl ?_
    refine xr_ialdv r' dX9_cell_56 lay_78 rfl hr4 (by decide) a3 ?_
    refine xr_if_ne 65 dX9_cell_57 (by decide) (fun hk => ?_) (fun hk => ?_)
    rotate_left
    · skip
      have hk0 : q.1 = 0 := (nI_eq (by omega) (by decide)).mp hk
      refine xr_iload3 dX9_cell_60 rfl ?_
      refine xr_i2b dX9_cell_61 ?_
      refine xr_goto 81 dX9_cell_62 (by decide) ?_
      exact fin _ (by simp [casts, hk0])
    · have hk0 : ¬ q.1 = 0 := fun e => hk (by rw [e]; rfl)
      refine xr_aload0 dX9_cell_65 rfl ?_
      refine xr_getR dX9_cell_66 fk_9_7 lay_77 rfl ?_
      refine xr_iload1 dX9_cell_69 rfl ?_
      refine xr_ialdv r' dX9_cell_70 lay_78 rfl hr4 (by decide) a3 ?_
      refine xr_ic1 dX9_cell_71 ?_
      refine xr_icmp_ne 80 dX9_cell_72 (by decide) (fun hk1 => ?_) (fun hk1 => ?_)
      rotate_left
      · skip
        have hk0 : q.1 = 1 := (nI_eq (by omega) (by decide)).mp hk1
        refine xr_iload3 dX9_cell_75 rfl ?_
        refine xr_i2s dX9_cell_76 ?_
        refine xr_goto 81 dX9_cell_77 (by decide) ?_
        exact fin _ (by simp [casts, hk0])
      · skip
        have hk1 : ¬ q.1 = 1 := fun e => hk1 (by rw [e]; rfl)
        refine xr_iload3 dX9_cell_80 rfl ?_
        exact fin _ (by simp [casts, hk0, hk1])
theorem c9_told {S : xSt} (r i : Int32) (h : mIv I S) : xCon G M_X9_told [.ref (G.1 77), .int r, .int i] I J (xpi fun a I' J' => a = sp_told S r i ∧ I = I' ∧ J = J') := by
  refine x_ent (by decide) (Nat.le_of_ble_eq_true rfl) rfl ?_
  show xT _ _ _ _ [_, _, _] _ _ _
  refine xr_iload1 dX9_told_0 rfl ?_
  refine xr_cSi [_] dX9_told_1 (xcs_of cf_X9_isSheet ml_9_105 (by decide)) rfl rfl (Nat.le_of_ble_eq_true rfl) (c9_isSheet _) (fun b I1 J1 hc => ?_)
  obtain ⟨rfl, rfl, rfl⟩ := hc
  refine xr_if_eq 39 dX9_told_4 (by decide) (fun hr => ?_) (fun hr => ?_)
  · have hr := is_n hr
    refine xr_ldc cs_9_113 dX9_told_39 ?_
    refine xr_iret dX9_told_41 rfl rfl ⟨by simp [sp_told, hr], rfl, rfl⟩
  obtain ⟨r', hr⟩ := is_s hr
  obtain ⟨hr4, rfl⟩ := ix_some hr
  have h1 := h.1 r' hr4
  refine xr_iload2 dX9_told_7 rfl ?_
  refine xr_i2l dX9_told_8 ?_
  refine xr_lc0 dX9_told_9 ?_
  refine xr_aload0 dX9_told_10 rfl ?_
  refine xr_getR dX9_told_11 fk_9_13 lay_77 rfl ?_
  refine xr_iload1 dX9_told_14 rfl ?_
  refine xr_iald _ dX9_told_15 lay_79 (by (try simp only [k_0, k_1, k_2, k_3, k_4, k_5, k_8, k_16, k_34, k_40, k_200, k_201, k_256, k_512, nI_add, pk_mul]); first | done | rfl) (by omega) (by decide) ?_
  refine xr_ic1 dX9_told_16 ?_
  refine xr_isub dX9_told_17 ?_
  refine xr_i2l dX9_told_18 ?_
  refine xr_cSi [_, _, _] dX9_told_19 (xcs_of cf_X9_in ml_9_99 (by decide)) rfl rfl (Nat.le_of_ble_eq_true rfl) (c9_in _ _ _) (fun b I1 J1 hc => ?_)
  obtain ⟨rfl, rfl, rfl⟩ := hc
  cases hs : S.1 r' with
  | none =>
    rw [hs] at h1
    rw [show I 79 r' = -1 from h1]
    refine xr_if_eq 39 dX9_told_22 (by decide) (fun hn => ?_) (fun hn => ?_)
    · refine xr_ldc cs_9_113 dX9_told_39 ?_
      refine xr_iret dX9_told_41 rfl rfl ⟨by simp [sp_told, hr, hs], rfl, rfl⟩
    · refine absurd ?_ hn
      rw [b2_0, decide_eq_false_iff_not, Int64.le_iff_toInt_le, Int64.le_iff_toInt_le, show (((-1 : Int32) - 1).toInt64).toInt = -2 by decide]
      simp
      omega
  | some q =>
    rw [hs] at h1
    obtain ⟨a1, a2, a3, a4, a5⟩ := h1
    rw [in_ix (n := q.2.1) (by rw [a4, Int32.toInt_toInt64, k_1, pk_sub_toInt (by omega) (by decide)]; rfl)]
    refine xr_if_eq 39 dX9_told_22 (by decide) (fun hi => ?_) (fun hi => ?_)
    · have hi := is_n hi
      refine xr_ldc cs_9_113 dX9_told_39 ?_
      refine xr_iret dX9_told_41 rfl rfl ⟨by simp [sp_told, hr, hs, hi], rfl, rfl⟩
    obtain ⟨i', hi⟩ := is_s hi
    obtain ⟨hi4, rfl⟩ := ix_some hi
    refine xr_aload0 dX9_told_25 rfl ?_
    refine xr_getR dX9_told_26 fk_9_16 lay_77 rfl ?_
    refine xr_bip bi_40 dX9_told_29 ?_
    refine xr_iload1 dX9_told_31 rfl ?_
    refine xr_imul dX9_told_32 ?_
    refine xr_iload2 dX9_told_33 rfl ?_
    refine xr_iadd dX9_told_34 ?_
    refine xr_iald _ dX9_told_35 lay_80 (by (try simp only [k_0, k_1, k_2, k_3, k_4, k_5, k_8, k_16, k_34, k_40, k_200, k_201, k_256, k_512, nI_add, pk_mul]); first | done | rfl) (by omega) (by decide) ?_
    refine xr_goto 41 dX9_told_36 (by decide) ?_
    refine xr_iret dX9_told_41 rfl rfl ⟨by simp [sp_told, hr, hs, hi, a5 i' hi4], rfl, rfl⟩
theorem c9_lose {S : xSt} (r : Int32) (h : mIv I S) : xCon G M_X9_lose [.ref (G.1 77), .int r] I J (xpi fun a I' J' => a = (sp_lose S r).1 ∧ mIv I' (sp_lose S r).2 ∧ mfr I J I' J') := by
  refine x_ent (by decide) (Nat.le_of_ble_eq_true rfl) rfl ?_
  show xT _ _ _ _ [_, _] _ _ _
  refine xr_iload1 dX9_lose_0 rfl ?_
  refine xr_cSi [_] dX9_lose_1 (xcs_of cf_X9_isSheet ml_9_105 (by decide)) rfl rfl (Nat.le_of_ble_eq_true rfl) (c9_isSheet _) (fun b I1 J1 hc => ?_)
  obtain ⟨rfl, rfl, rfl⟩ := hc
  refine xr_if_ne 9 dX9_lose_4 (by decide) (fun hr => ?_) (fun hr => ?_)
  rotate_left
  · have hr := is_n hr
    refine xr_icm1 dX9_lose_7 ?_
    refine xr_iret dX9_lose_8 rfl rfl ⟨by simp [sp_lose, hr], by simpa [sp_lose, hr] using h, mfr.rf⟩
  obtain ⟨r', hr⟩ := is_s hr
  obtain ⟨hr4, rfl⟩ := ix_some hr
  have h1 := h.1 r' hr4
  refine xr_aload0 dX9_lose_9 rfl ?_
  refine xr_getR dX9_lose_10 fk_9_13 lay_77 rfl ?_
  refine xr_iload1 dX9_lose_13 rfl ?_
  refine xr_iald _ dX9_lose_14 lay_79 (by (try simp only [k_0, k_1, k_2, k_3, k_4, k_5, k_8, k_16, k_34, k_40, k_200, k_201, k_256, k_512, nI_add, pk_mul]); first | done | rfl) (by omega) (by decide) ?_
  cases hs : S.1 r' with
  | none =>
    rw [hs] at h1
    rw [show I 79 r' = -1 from h1]
    refine xr_if_ge 21 dX9_lose_15 (by decide) (fun hn => ?_) (fun hn => ?_)
    · exact absurd hn (by decide)
    · refine xr_bip bi_m3 dX9_lose_18 ?_
      refine xr_iret dX9_lose_20 rfl rfl ⟨by simp [sp_lose, hr, hs], by simpa [sp_lose, hr, hs] using h, mfr.rf⟩
  | some q =>
    rw [hs] at h1
    obtain ⟨a1, a2, a3, a4, a5⟩ := h1
    rw [a4]
    refine xr_if_ge 21 dX9_lose_15 (by decide) (fun hn => ?_) (fun hn => ?_)
    rotate_left
    · exact absurd (nI_pos' (by omega)) hn
    refine xr_aload0 dX9_lose_21 rfl ?_
    refine xr_getR dX9_lose_22 fk_9_13 lay_77 rfl ?_
    refine xr_iload1 dX9_lose_25 rfl ?_
    refine xr_icm1 dX9_lose_26 ?_
    refine xr_iast _ dX9_lose_27 lay_79 (by (try simp only [k_0, k_1, k_2, k_3, k_4, k_5, k_8, k_16, k_34, k_40, k_200, k_201, k_256, k_512, nI_add, pk_mul]); first | done | rfl) (by omega) (by decide) ?_
    refine xr_ic1 dX9_lose_28 ?_
    have e2 : sp_lose S (nI r') = (1, (va_up S.1 r' none, S.2)) := by simp [sp_lose, hr, hs]
    refine xr_iret dX9_lose_29 rfl rfl ⟨by rw [e2], ?_, fun a ha => ⟨by rw [va_up_ne _ _ (by omega)], rfl⟩⟩
    rw [e2]
    obtain ⟨b1, b2, b3⟩ := h
    refine ⟨fun p hp => ?_, b2.cg (by rw [va_up_ne _ _ (by decide)]) (by rw [va_up_ne _ _ (by decide)]) (by rw [va_up_ne _ _ (by decide)]) (by rw [va_up_ne _ _ (by decide)]), b3.cg (by rw [va_up_ne _ _ (by decide)]) (by rw [va_up_ne _ _ (by decide)])⟩
    have b0 := b1 p hp
    unfold mS1 at b0 ⊢
    rw [va_up_ne (k := 79) (j := 78) _ _ (by decide), va_up_ne (k := 79) (j := 80) _ _ (by decide), up_same]
    by_cases hpr : p = r'
    · subst hpr
      simp only [up_same, upd_same]
    · simp only [va_up_ne _ _ hpr, upd_ne _ _ hpr]
      exact b0
end M02
end
section
section M03
variable {G : xG} {I : xI} {J : xJ}
theorem c9_isFair {M : xMac} (h : mMach I M) {t : Nat} (ht : t < mN M) : xCon G M_X9_isFair [.ref (G.1 77), .int (nI t)] I J (xpi fun r I' J' => r = b2 (mF M t) ∧ I = I' ∧ J = J') := by
  obtain ⟨⟨hK2, hK4, hN8, hok⟩, hK, hN, hwg⟩ := h
  refine x_ent (by decide) (Nat.le_of_ble_eq_true rfl) rfl ?_
  show xT _ _ _ _ [_, _, _, _, _] _ _ _
  refine xr_ic1 dX9_isFair_0 ?_
  refine xr_istore2 dX9_isFair_1 (Nat.le_of_ble_eq_true rfl) ?_
  show xT _ _ _ _ [_, _, _, _, _] _ _ _
  refine xr_ic0 dX9_isFair_2 ?_
  refine xr_istore3 dX9_isFair_3 (Nat.le_of_ble_eq_true rfl) ?_
  show xT _ _ _ _ [_, _, _, _, _] _ _ _
  have L1 : ∀ x, x ≤ mK M → ∀ (b : Bool) (z : Option Value), (b = true ↔ ∀ x' y', x' < x → y' < x' → mWr M t x' ≠ mWr M t y') → xT G M_X9_isFair (xMQ G (xpi fun r I' J' => r = b2 (mF M t) ∧ I = I' ∧ J = J')) 4 [some (.ref (G.1 77)), some (.int (nI t)), some (.int (b2 b)), some (.int (nI x)), z] [] I J := by
    refine x_for (fun x hx IH b z hb => ?_)
    refine xr_iload3 dX9_isFair_4 rfl ?_
    refine xr_aload0 dX9_isFair_5 rfl ?_
    refine xr_getIv dX9_isFair_6 fk_9_19 lay_77 rfl hK ?_
    refine xr_icmp_ge 67 dX9_isFair_9 (by decide) (fun hc => ?_) (fun hc => ?_)
    · have : x = mK M := by have := nle hc; omega
      subst this
      refine xr_iload2 dX9_isFair_67 rfl ?_
      refine xr_zret dX9_isFair_68 rfl rfl (b2_01 _) ⟨b2_iff (hb.trans mF_iff.symm), rfl, rfl⟩
    · have hx4 := nlt hc
      have IH := IH hx4
      refine xr_ic0 dX9_isFair_12 ?_
      refine xr_istore dX9_isFair_13 (Nat.le_of_ble_eq_true rfl) ?_
      show xT _ _ _ _ [_, _, _, _, _] _ _ _
      have L2 : ∀ y, y ≤ x → ∀ (b : Bool), (b = true ↔ (∀ x' y', x' < x → y' < x' → mWr M t x' ≠ mWr M t y') ∧ ∀ y', y' < y → mWr M t x ≠ mWr M t y') → xT G M_X9_isFair (xMQ G (xpi fun r I' J' => r = b2 (mF M t) ∧ I = I' ∧ J = J')) 15 [some (.ref (G.1 77)), some (.int (nI t)), some (.int (b2 b)), some (.int (nI x)), some (.int (nI y))] [] I J := by
        refine x_for (fun y hy IH2 b hb => ?_)
        refine xr_iload dX9_isFair_15 rfl ?_
        refine xr_iload3 dX9_isFair_17 rfl ?_
        refine xr_icmp_ge 61 dX9_isFair_18 (by decide) (fun hc2 => ?_) (fun hc2 => ?_)
        · have : y = x := by have := nle hc2; omega
          subst this
          refine xr_iinc dX9_isFair_61 rfl ii_1 (Nat.le_of_ble_eq_true rfl) ?_
          show xT _ _ _ _ [_, _, _, _, _] _ _ _
          refine xr_goto 4 dX9_isFair_64 (by decide) ?_
          rw [k_1, nI_add]
          refine IH b _ (hb.trans ⟨fun q x' y' h1 h2 => ?_, fun q => ⟨fun x' y' h1 h2 => q x' y' (by omega) h2, fun y' h2 => q y y' (by omega) h2⟩⟩)
          by_cases e : x' = y
          · subst e; exact q.2 y' h2
          · exact q.1 x' y' (by omega) h2
        · have hyx := nlt hc2
          have IH2 := IH2 hyx
          have J54 : ∀ b' : Bool, (b' = true ↔ (b = true ∧ mWr M t x ≠ mWr M t y)) → xT G M_X9_isFair (xMQ G (xpi fun r I' J' => r = b2 (mF M t) ∧ I = I' ∧ J = J')) 54 [some (.ref (G.1 77)), some (.int (nI t)), some (.int (b2 b)), some (.int (nI x)), some (.int (nI y))] [.int (b2 b')] I J := by
            intro b' hb'
            refine xr_istore2 dX9_isFair_54 (Nat.le_of_ble_eq_true rfl) ?_
            show xT _ _ _ _ [_, _, _, _, _] _ _ _
            refine xr_iinc dX9_isFair_55 rfl ii_1 (Nat.le_of_ble_eq_true rfl) ?_
            show xT _ _ _ _ [_, _, _, _, _] _ _ _
            refine xr_goto 15 dX9_isFair_58 (by decide) ?_
            rw [k_1, nI_add]
            refine IH2 b' (hb'.trans ⟨fun q => ⟨(hb.mp q.1).1, fun y' h2 => ?_⟩, fun q => ⟨hb.mpr ⟨q.1, fun y' h2 => q.2 y' (by omega)⟩, q.2 y (by omega)⟩⟩)
            by_cases e : y' = y
            · subst e; exact q.2
            · exact (hb.mp q.1).2 y' (by omega)
          refine xr_iload2 dX9_isFair_21 rfl ?_
          refine xr_if_eq 53 dX9_isFair_22 (by decide) (fun hb0 => ?_) (fun hb0 => ?_)
          · refine xr_ic0 dX9_isFair_53 ?_
            exact J54 false ⟨fun q => (by cases q), fun q => by rw [b2_0] at hb0; rw [hb0] at q; exact absurd q.1 (by decide)⟩
          · have hb1 : b = true := by
              cases b with
              | true => rfl
              | false => exact absurd rfl hb0
            refine xr_aload0 dX9_isFair_25 rfl ?_
            refine xr_getR dX9_isFair_26 fk_9_23 lay_77 rfl ?_
            refine xr_ic4 dX9_isFair_29 ?_
            refine xr_iload1 dX9_isFair_30 rfl ?_
            refine xr_imul dX9_isFair_31 ?_
            refine xr_iload3 dX9_isFair_32 rfl ?_
            refine xr_iadd dX9_isFair_33 ?_
            refine xr_ialdv (4 * t + x) dX9_isFair_34 lay_81 (by simp only [k_4, pk_mul, nI_add]) (by omega) (by decide) (hwg t x ht hx4).1 ?_
            refine xr_aload0 dX9_isFair_35 rfl ?_
            refine xr_getR dX9_isFair_36 fk_9_23 lay_77 rfl ?_
            refine xr_ic4 dX9_isFair_39 ?_
            refine xr_iload1 dX9_isFair_40 rfl ?_
            refine xr_imul dX9_isFair_41 ?_
            refine xr_iload dX9_isFair_42 rfl ?_
            refine xr_iadd dX9_isFair_44 ?_
            refine xr_ialdv (4 * t + y) dX9_isFair_45 lay_81 (by simp only [k_4, pk_mul, nI_add]) (by omega) (by decide) (hwg t y ht (by omega)).1 ?_
            have w1 := (hok t x ht hx4).1
            have w2 := (hok t y ht (by omega)).1
            refine xr_icmp_eq 53 dX9_isFair_46 (by decide) (fun he => ?_) (fun he => ?_)
            · have he := (nI_eq (by omega) (by omega)).mp he
              refine xr_ic0 dX9_isFair_53 ?_
              exact J54 false ⟨fun q => (by cases q), fun q => absurd he q.2⟩
            · refine xr_ic1 dX9_isFair_49 ?_
              refine xr_goto 54 dX9_isFair_50 (by decide) ?_
              exact J54 true ⟨fun _ => ⟨hb1, fun e => he (by rw [e])⟩, fun _ => rfl⟩
      exact L2 0 (by omega) b ⟨fun q => ⟨hb.mp q, fun y' h => by omega⟩, fun q => hb.mpr q.1⟩
  exact L1 0 (by omega) true _ ⟨fun _ x' y' h => by omega, fun _ => rfl⟩
theorem c9_isWhole {M : xMac} (h : mMach I M) : xCon G M_X9_isWhole [.ref (G.1 77)] I J (xpi fun r I' J' => r = b2 (mW M) ∧ I = I' ∧ J = J') := by
  obtain ⟨⟨hK2, hK4, hN8, hok⟩, hK, hN, hwg⟩ := h
  refine x_ent (by decide) (Nat.le_of_ble_eq_true rfl) rfl ?_
  show xT _ _ _ _ [_, _, _, _] _ _ _
  refine xr_ic1 dX9_isWhole_0 ?_
  refine xr_istore1 dX9_isWhole_1 (Nat.le_of_ble_eq_true rfl) ?_
  show xT _ _ _ _ [_, _, _, _] _ _ _
  refine xr_ic0 dX9_isWhole_2 ?_
  refine xr_istore2 dX9_isWhole_3 (Nat.le_of_ble_eq_true rfl) ?_
  show xT _ _ _ _ [_, _, _, _] _ _ _
  have L1 : ∀ s, s ≤ mN M → ∀ (b : Bool) (z : Option Value), (b = true ↔ ∀ s' x', s' < s → x' < mK M → ∀ g, mGo M s' x' = some g → g < mN M) → xT G M_X9_isWhole (xMQ G (xpi fun r I' J' => r = b2 (mW M) ∧ I = I' ∧ J = J')) 4 [some (.ref (G.1 77)), some (.int (b2 b)), some (.int (nI s)), z] [] I J := by
    refine x_for (fun s hs IH b z hb => ?_)
    refine xr_iload2 dX9_isWhole_4 rfl ?_
    refine xr_aload0 dX9_isWhole_5 rfl ?_
    refine xr_getIv dX9_isWhole_6 fk_9_116 lay_77 rfl hN ?_
    refine xr_icmp_ge 61 dX9_isWhole_9 (by decide) (fun hc => ?_) (fun hc => ?_)
    · have : s = mN M := by have := nle hc; omega
      subst this
      refine xr_iload1 dX9_isWhole_61 rfl ?_
      refine xr_zret dX9_isWhole_62 rfl rfl (b2_01 _) ⟨b2_iff (hb.trans mW_iff.symm), rfl, rfl⟩
    · have hs4 := nlt hc
      have IH := IH hs4
      refine xr_ic0 dX9_isWhole_12 ?_
      refine xr_istore3 dX9_isWhole_13 (Nat.le_of_ble_eq_true rfl) ?_
      show xT _ _ _ _ [_, _, _, _] _ _ _
      have L2 : ∀ x, x ≤ mK M → ∀ (b : Bool), (b = true ↔ (∀ s' x', s' < s → x' < mK M → ∀ g, mGo M s' x' = some g → g < mN M) ∧ ∀ x', x' < x → ∀ g, mGo M s x' = some g → g < mN M) → xT G M_X9_isWhole (xMQ G (xpi fun r I' J' => r = b2 (mW M) ∧ I = I' ∧ J = J')) 14 [some (.ref (G.1 77)), some (.int (b2 b)), some (.int (nI s)), some (.int (nI x))] [] I J := by
        refine x_for (fun x hx IH2 b hb => ?_)
        refine xr_iload3 dX9_isWhole_14 rfl ?_
        refine xr_aload0 dX9_isWhole_15 rfl ?_
        refine xr_getIv dX9_isWhole_16 fk_9_19 lay_77 rfl hK ?_
        refine xr_icmp_ge 55 dX9_isWhole_19 (by decide) (fun hc2 => ?_) (fun hc2 => ?_)
        · have : x = mK M := by have := nle hc2; omega
          subst this
          refine xr_iinc dX9_isWhole_55 rfl ii_1 (Nat.le_of_ble_eq_true rfl) ?_
          show xT _ _ _ _ [_, _, _, _] _ _ _
          refine xr_goto 4 dX9_isWhole_58 (by decide) ?_
          rw [k_1, nI_add]
          refine IH b _ (hb.trans ⟨fun q s' x' h1 h2 => ?_, fun q => ⟨fun s' x' h1 h2 => q s' x' (by omega) h2, fun x' h2 => q s x' (by omega) h2⟩⟩)
          by_cases e : s' = s
          · subst e; exact q.2 x' h2
          · exact q.1 s' x' (by omega) h2
        · have hxK := nlt hc2
          have IH2 := IH2 hxK
          have J48 : ∀ b' : Bool, (b' = true ↔ (b = true ∧ ∀ g, mGo M s x = some g → g < mN M)) → xT G M_X9_isWhole (xMQ G (xpi fun r I' J' => r = b2 (mW M) ∧ I = I' ∧ J = J')) 48 [some (.ref (G.1 77)), some (.int (b2 b)), some (.int (nI s)), some (.int (nI x))] [.int (b2 b')] I J := by
            intro b' hb'
            refine xr_istore1 dX9_isWhole_48 (Nat.le_of_ble_eq_true rfl) ?_
            show xT _ _ _ _ [_, _, _, _] _ _ _
            refine xr_iinc dX9_isWhole_49 rfl ii_1 (Nat.le_of_ble_eq_true rfl) ?_
            show xT _ _ _ _ [_, _, _, _] _ _ _
            refine xr_goto 14 dX9_isWhole_52 (by decide) ?_
            rw [k_1, nI_add]
            refine IH2 b' (hb'.trans ⟨fun q => ⟨(hb.mp q.1).1, fun y' h2 => ?_⟩, fun q => ⟨hb.mpr ⟨q.1, fun y' h2 => q.2 y' (by omega)⟩, q.2 x (by omega)⟩⟩)
            by_cases e : y' = x
            · subst e; exact q.2
            · exact (hb.mp q.1).2 y' (by omega)
          refine xr_iload1 dX9_isWhole_22 rfl ?_
          refine xr_if_eq 47 dX9_isWhole_23 (by decide) (fun hb0 => ?_) (fun hb0 => ?_)
          · refine xr_ic0 dX9_isWhole_47 ?_
            exact J48 false ⟨fun q => (by cases q), fun q => by rw [b2_0] at hb0; rw [hb0] at q; exact absurd q.1 (by decide)⟩
          · have hb1 : b = true := by
              cases b with
              | true => rfl
              | false => exact absurd rfl hb0
            refine xr_aload0 dX9_isWhole_26 rfl ?_
            refine xr_getR dX9_isWhole_27 fk_9_26 lay_77 rfl ?_
            refine xr_ic4 dX9_isWhole_30 ?_
            refine xr_iload2 dX9_isWhole_31 rfl ?_
            refine xr_imul dX9_isWhole_32 ?_
            refine xr_iload3 dX9_isWhole_33 rfl ?_
            refine xr_iadd dX9_isWhole_34 ?_
            refine xr_ialdv (4 * s + x) dX9_isWhole_35 lay_82 (by simp only [k_4, pk_mul, nI_add]) (by omega) (by decide) (hwg s x hs4 hxK).2 ?_
            have w2 := (hok s x hs4 hxK).2
            refine xr_aload0 dX9_isWhole_36 rfl ?_
            refine xr_getIv dX9_isWhole_37 fk_9_116 lay_77 rfl hN ?_
            cases hg : mGo M s x with
            | none =>
              refine xr_icmp_ge 47 dX9_isWhole_40 (by decide) (fun he => ?_) (fun he => ?_)
              · exact absurd he (by
                  show ¬ (-1 : Int32) ≥ nI (mN M)
                  have := nI_toInt (n := mN M) (by omega)
                  rw [ge_iff_le, Int32.le_iff_toInt_le, this, show (-1 : Int32).toInt = -1 by decide]
                  omega)
              · refine xr_ic1 dX9_isWhole_43 ?_
                refine xr_goto 48 dX9_isWhole_44 (by decide) ?_
                exact J48 true ⟨fun _ => ⟨hb1, fun g q => (by rw [hg] at q; cases q)⟩, fun _ => rfl⟩
            | some g =>
              have w3 := w2 g hg
              refine xr_icmp_ge 47 dX9_isWhole_40 (by decide) (fun he => ?_) (fun he => ?_)
              · have he := nle he
                refine xr_ic0 dX9_isWhole_47 ?_
                exact J48 false ⟨fun q => (by cases q), fun q => by have := q.2 g hg; omega⟩
              · have he := nlt he
                refine xr_ic1 dX9_isWhole_43 ?_
                refine xr_goto 48 dX9_isWhole_44 (by decide) ?_
                exact J48 true ⟨fun _ => ⟨hb1, fun g' q => by rw [hg] at q; cases q; exact he⟩, fun _ => rfl⟩
      exact L2 0 (by omega) b ⟨fun q => ⟨hb.mp q, fun y' h => by omega⟩, fun q => hb.mpr q.1⟩
  exact L1 0 (by omega) true _ ⟨fun _ x' y' h => by omega, fun _ => rfl⟩
end M03
end
