section
-- ===== PART A: goes FIRST, ahead of the names: the tables' words, and 'selects' of the private methods out of them =====
/-- a private method of a class that the tables say can be made, by its rows of tables_1 -/
def lw_okq (q : MethodName × Nat) : Prop := (q.1.cls ≠ "java/lang/invoke/MethodHandle" ∧ q.1.cls ≠ "java/lang/invoke/VarHandle") ∧ Cond.instantiable q.1.cls q.2 ∈ tables_1 ∧ Cond.privateMethod q.1 ∈ tables_1 ∧ Cond.instanceMethod q.1 ∈ tables_1
theorem lw_p0 : lw_okq (⟨"SwitchTower$Machine", "refresh", "()V"⟩, 10) := ⟨⟨by decide +kernel, by decide +kernel⟩, List.mem_of_getElem? (i := 46) (by decide +kernel), List.mem_of_getElem? (i := 374) (by decide +kernel), List.mem_of_getElem? (i := 375) (by decide +kernel)⟩
theorem lw_p1 : lw_okq (⟨"SwitchTower$Machine", "goals", "(I)I"⟩, 10) := ⟨⟨by decide +kernel, by decide +kernel⟩, List.mem_of_getElem? (i := 46) (by decide +kernel), List.mem_of_getElem? (i := 378) (by decide +kernel), List.mem_of_getElem? (i := 379) (by decide +kernel)⟩
theorem lw_p2 : lw_okq (⟨"SwitchTower$Machine", "writesUnlike", "(I)Z"⟩, 10) := ⟨⟨by decide +kernel, by decide +kernel⟩, List.mem_of_getElem? (i := 46) (by decide +kernel), List.mem_of_getElem? (i := 382) (by decide +kernel), List.mem_of_getElem? (i := 383) (by decide +kernel)⟩
theorem lw_p3 : lw_okq (⟨"SwitchTower$Machine", "listMarks", "()V"⟩, 10) := ⟨⟨by decide +kernel, by decide +kernel⟩, List.mem_of_getElem? (i := 46) (by decide +kernel), List.mem_of_getElem? (i := 386) (by decide +kernel), List.mem_of_getElem? (i := 387) (by decide +kernel)⟩
theorem lw_p4 : lw_okq (⟨"SwitchTower$Machine", "wireMarks", "(II)V"⟩, 10) := ⟨⟨by decide +kernel, by decide +kernel⟩, List.mem_of_getElem? (i := 46) (by decide +kernel), List.mem_of_getElem? (i := 394) (by decide +kernel), List.mem_of_getElem? (i := 395) (by decide +kernel)⟩
theorem lw_p5 : lw_okq (⟨"SwitchTower", "forgetAnswers", "()V"⟩, 9) := ⟨⟨by decide +kernel, by decide +kernel⟩, List.mem_of_getElem? (i := 15) (by decide +kernel), List.mem_of_getElem? (i := 398) (by decide +kernel), List.mem_of_getElem? (i := 399) (by decide +kernel)⟩
theorem lw_p6 : lw_okq (⟨"SwitchTower", "hasLostWayBack", "(LSwitchTower$Word;)Z"⟩, 9) := ⟨⟨by decide +kernel, by decide +kernel⟩, List.mem_of_getElem? (i := 15) (by decide +kernel), List.mem_of_getElem? (i := 451) (by decide +kernel), List.mem_of_getElem? (i := 452) (by decide +kernel)⟩
theorem lw_p7 : lw_okq (⟨"SwitchTower", "refusalOfGiven", "()I"⟩, 9) := ⟨⟨by decide +kernel, by decide +kernel⟩, List.mem_of_getElem? (i := 15) (by decide +kernel), List.mem_of_getElem? (i := 475) (by decide +kernel), List.mem_of_getElem? (i := 476) (by decide +kernel)⟩
theorem lw_p8 : lw_okq (⟨"SwitchTower", "join", "(LSwitchTower$Word;LSwitchTower$Word;I)I"⟩, 9) := ⟨⟨by decide +kernel, by decide +kernel⟩, List.mem_of_getElem? (i := 15) (by decide +kernel), List.mem_of_getElem? (i := 486) (by decide +kernel), List.mem_of_getElem? (i := 487) (by decide +kernel)⟩
theorem lw_p9 : lw_okq (⟨"SwitchTower", "bring", "(LSwitchTower$Word;I)I"⟩, 9) := ⟨⟨by decide +kernel, by decide +kernel⟩, List.mem_of_getElem? (i := 15) (by decide +kernel), List.mem_of_getElem? (i := 494) (by decide +kernel), List.mem_of_getElem? (i := 495) (by decide +kernel)⟩
theorem lw_p10 : lw_okq (⟨"SwitchTower", "hasBackStates", "(LSwitchTower$Word;)Z"⟩, 9) := ⟨⟨by decide +kernel, by decide +kernel⟩, List.mem_of_getElem? (i := 15) (by decide +kernel), List.mem_of_getElem? (i := 521) (by decide +kernel), List.mem_of_getElem? (i := 522) (by decide +kernel)⟩
theorem lw_p11 : lw_okq (⟨"SwitchTower$Machine", "hasLetters", "(II)Z"⟩, 10) := ⟨⟨by decide +kernel, by decide +kernel⟩, List.mem_of_getElem? (i := 46) (by decide +kernel), List.mem_of_getElem? (i := 533) (by decide +kernel), List.mem_of_getElem? (i := 534) (by decide +kernel)⟩
theorem lw_p12 : lw_okq (⟨"SwitchTower", "walkDown", "(LSwitchTower$Word;II)I"⟩, 9) := ⟨⟨by decide +kernel, by decide +kernel⟩, List.mem_of_getElem? (i := 15) (by decide +kernel), List.mem_of_getElem? (i := 537) (by decide +kernel), List.mem_of_getElem? (i := 538) (by decide +kernel)⟩
theorem lw_p13 : lw_okq (⟨"SwitchTower", "gather", "(II)I"⟩, 9) := ⟨⟨by decide +kernel, by decide +kernel⟩, List.mem_of_getElem? (i := 15) (by decide +kernel), List.mem_of_getElem? (i := 555) (by decide +kernel), List.mem_of_getElem? (i := 556) (by decide +kernel)⟩
theorem lw_p14 : lw_okq (⟨"SwitchTower$KeyTable", "slotOf", "(JI)I"⟩, 5) := ⟨⟨by decide +kernel, by decide +kernel⟩, List.mem_of_getElem? (i := 140) (by decide +kernel), List.mem_of_getElem? (i := 577) (by decide +kernel), List.mem_of_getElem? (i := 578) (by decide +kernel)⟩
theorem lw_p15 : lw_okq (⟨"SwitchTower$Pool", "keepRound", "()V"⟩, 13) := ⟨⟨by decide +kernel, by decide +kernel⟩, List.mem_of_getElem? (i := 184) (by decide +kernel), List.mem_of_getElem? (i := 595) (by decide +kernel), List.mem_of_getElem? (i := 596) (by decide +kernel)⟩
def lw_privs_1 : List (MethodName × Nat) := [(⟨"SwitchTower$Machine", "refresh", "()V"⟩, 10), (⟨"SwitchTower$Machine", "goals", "(I)I"⟩, 10), (⟨"SwitchTower$Machine", "writesUnlike", "(I)Z"⟩, 10), (⟨"SwitchTower$Machine", "listMarks", "()V"⟩, 10), (⟨"SwitchTower$Machine", "wireMarks", "(II)V"⟩, 10), (⟨"SwitchTower", "forgetAnswers", "()V"⟩, 9), (⟨"SwitchTower", "hasLostWayBack", "(LSwitchTower$Word;)Z"⟩, 9), (⟨"SwitchTower", "refusalOfGiven", "()I"⟩, 9), (⟨"SwitchTower", "join", "(LSwitchTower$Word;LSwitchTower$Word;I)I"⟩, 9), (⟨"SwitchTower", "bring", "(LSwitchTower$Word;I)I"⟩, 9), (⟨"SwitchTower", "hasBackStates", "(LSwitchTower$Word;)Z"⟩, 9), (⟨"SwitchTower$Machine", "hasLetters", "(II)Z"⟩, 10), (⟨"SwitchTower", "walkDown", "(LSwitchTower$Word;II)I"⟩, 9), (⟨"SwitchTower", "gather", "(II)I"⟩, 9), (⟨"SwitchTower$KeyTable", "slotOf", "(JI)I"⟩, 5), (⟨"SwitchTower$Pool", "keepRound", "()V"⟩, 13)]
theorem lw_r1 : ∀ q ∈ lw_privs_1, lw_okq q := List.forall_mem_cons.mpr ⟨lw_p0, List.forall_mem_cons.mpr ⟨lw_p1, List.forall_mem_cons.mpr ⟨lw_p2, List.forall_mem_cons.mpr ⟨lw_p3, List.forall_mem_cons.mpr ⟨lw_p4, List.forall_mem_cons.mpr ⟨lw_p5, List.forall_mem_cons.mpr ⟨lw_p6, List.forall_mem_cons.mpr ⟨lw_p7, List.forall_mem_cons.mpr ⟨lw_p8, List.forall_mem_cons.mpr ⟨lw_p9, List.forall_mem_cons.mpr ⟨lw_p10, List.forall_mem_cons.mpr ⟨lw_p11, List.forall_mem_cons.mpr ⟨lw_p12, List.forall_mem_cons.mpr ⟨lw_p13, List.forall_mem_cons.mpr ⟨lw_p14, List.forall_mem_cons.mpr ⟨lw_p15, fun _ h => absurd h List.not_mem_nil⟩⟩⟩⟩⟩⟩⟩⟩⟩⟩⟩⟩⟩⟩⟩⟩
theorem lw_p16 : lw_okq (⟨"SwitchTower$Pool", "refine", "()V"⟩, 13) := ⟨⟨by decide +kernel, by decide +kernel⟩, List.mem_of_getElem? (i := 184) (by decide +kernel), List.mem_of_getElem? (i := 602) (by decide +kernel), List.mem_of_getElem? (i := 603) (by decide +kernel)⟩
theorem lw_p17 : lw_okq (⟨"SwitchTower$Pool", "arePartedBy", "(III)Z"⟩, 13) := ⟨⟨by decide +kernel, by decide +kernel⟩, List.mem_of_getElem? (i := 184) (by decide +kernel), List.mem_of_getElem? (i := 626) (by decide +kernel), List.mem_of_getElem? (i := 627) (by decide +kernel)⟩
theorem lw_p18 : lw_okq (⟨"SwitchTower$Pool", "firstPartingLetter", "(III)I"⟩, 13) := ⟨⟨by decide +kernel, by decide +kernel⟩, List.mem_of_getElem? (i := 184) (by decide +kernel), List.mem_of_getElem? (i := 630) (by decide +kernel), List.mem_of_getElem? (i := 631) (by decide +kernel)⟩
theorem lw_p19 : lw_okq (⟨"SwitchTower$Pool", "firstUnlikeLetter", "(I)I"⟩, 13) := ⟨⟨by decide +kernel, by decide +kernel⟩, List.mem_of_getElem? (i := 184) (by decide +kernel), List.mem_of_getElem? (i := 634) (by decide +kernel), List.mem_of_getElem? (i := 635) (by decide +kernel)⟩
theorem lw_p20 : lw_okq (⟨"SwitchTower$Levels", "buildBranch", "(LSwitchTower$Machine;III)V"⟩, 8) := ⟨⟨by decide +kernel, by decide +kernel⟩, List.mem_of_getElem? (i := 101) (by decide +kernel), List.mem_of_getElem? (i := 658) (by decide +kernel), List.mem_of_getElem? (i := 659) (by decide +kernel)⟩
theorem lw_p21 : lw_okq (⟨"SwitchTower$Levels", "ringLength", "(LSwitchTower$Word;II)I"⟩, 8) := ⟨⟨by decide +kernel, by decide +kernel⟩, List.mem_of_getElem? (i := 101) (by decide +kernel), List.mem_of_getElem? (i := 671) (by decide +kernel), List.mem_of_getElem? (i := 672) (by decide +kernel)⟩
theorem lw_p22 : lw_okq (⟨"SwitchTower", "levelOf", "(I)I"⟩, 9) := ⟨⟨by decide +kernel, by decide +kernel⟩, List.mem_of_getElem? (i := 15) (by decide +kernel), List.mem_of_getElem? (i := 703) (by decide +kernel), List.mem_of_getElem? (i := 704) (by decide +kernel)⟩
theorem lw_p23 : lw_okq (⟨"SwitchTower", "walkFrom", "(II)I"⟩, 9) := ⟨⟨by decide +kernel, by decide +kernel⟩, List.mem_of_getElem? (i := 15) (by decide +kernel), List.mem_of_getElem? (i := 707) (by decide +kernel), List.mem_of_getElem? (i := 708) (by decide +kernel)⟩
theorem lw_p24 : lw_okq (⟨"SwitchTower$LevelGroup", "behind", "(JJ)J"⟩, 4) := ⟨⟨by decide +kernel, by decide +kernel⟩, List.mem_of_getElem? (i := 134) (by decide +kernel), List.mem_of_getElem? (i := 754) (by decide +kernel), List.mem_of_getElem? (i := 755) (by decide +kernel)⟩
theorem lw_p25 : lw_okq (⟨"SwitchTower$LevelGroup", "addBlock", "(IJ)Z"⟩, 4) := ⟨⟨by decide +kernel, by decide +kernel⟩, List.mem_of_getElem? (i := 134) (by decide +kernel), List.mem_of_getElem? (i := 759) (by decide +kernel), List.mem_of_getElem? (i := 760) (by decide +kernel)⟩
theorem lw_p26 : lw_okq (⟨"SwitchTower$ShortWords", "enterWithin", "(LSwitchTower$Machine;I)Z"⟩, 10) := ⟨⟨by decide +kernel, by decide +kernel⟩, List.mem_of_getElem? (i := 238) (by decide +kernel), List.mem_of_getElem? (i := 771) (by decide +kernel), List.mem_of_getElem? (i := 772) (by decide +kernel)⟩
theorem lw_p27 : lw_okq (⟨"SwitchTower$ShortWords", "beginWithEmpty", "()V"⟩, 10) := ⟨⟨by decide +kernel, by decide +kernel⟩, List.mem_of_getElem? (i := 238) (by decide +kernel), List.mem_of_getElem? (i := 775) (by decide +kernel), List.mem_of_getElem? (i := 776) (by decide +kernel)⟩
theorem lw_p28 : lw_okq (⟨"SwitchTower$ShortWords", "extend", "(LSwitchTower$Machine;I)Z"⟩, 10) := ⟨⟨by decide +kernel, by decide +kernel⟩, List.mem_of_getElem? (i := 238) (by decide +kernel), List.mem_of_getElem? (i := 785) (by decide +kernel), List.mem_of_getElem? (i := 786) (by decide +kernel)⟩
theorem lw_p29 : lw_okq (⟨"SwitchTower$ShortWords", "isLaw", "(I)Z"⟩, 10) := ⟨⟨by decide +kernel, by decide +kernel⟩, List.mem_of_getElem? (i := 238) (by decide +kernel), List.mem_of_getElem? (i := 801) (by decide +kernel), List.mem_of_getElem? (i := 802) (by decide +kernel)⟩
theorem lw_p30 : lw_okq (⟨"SwitchTower$ShortWords", "lookAtParts", "(LSwitchTower$Machine;II)Z"⟩, 10) := ⟨⟨by decide +kernel, by decide +kernel⟩, List.mem_of_getElem? (i := 238) (by decide +kernel), List.mem_of_getElem? (i := 826) (by decide +kernel), List.mem_of_getElem? (i := 827) (by decide +kernel)⟩
theorem lw_p31 : lw_okq (⟨"SwitchTower$ShortWords", "addUnlike", "()Z"⟩, 10) := ⟨⟨by decide +kernel, by decide +kernel⟩, List.mem_of_getElem? (i := 238) (by decide +kernel), List.mem_of_getElem? (i := 833) (by decide +kernel), List.mem_of_getElem? (i := 834) (by decide +kernel)⟩
def lw_privs_2 : List (MethodName × Nat) := [(⟨"SwitchTower$Pool", "refine", "()V"⟩, 13), (⟨"SwitchTower$Pool", "arePartedBy", "(III)Z"⟩, 13), (⟨"SwitchTower$Pool", "firstPartingLetter", "(III)I"⟩, 13), (⟨"SwitchTower$Pool", "firstUnlikeLetter", "(I)I"⟩, 13), (⟨"SwitchTower$Levels", "buildBranch", "(LSwitchTower$Machine;III)V"⟩, 8), (⟨"SwitchTower$Levels", "ringLength", "(LSwitchTower$Word;II)I"⟩, 8), (⟨"SwitchTower", "levelOf", "(I)I"⟩, 9), (⟨"SwitchTower", "walkFrom", "(II)I"⟩, 9), (⟨"SwitchTower$LevelGroup", "behind", "(JJ)J"⟩, 4), (⟨"SwitchTower$LevelGroup", "addBlock", "(IJ)Z"⟩, 4), (⟨"SwitchTower$ShortWords", "enterWithin", "(LSwitchTower$Machine;I)Z"⟩, 10), (⟨"SwitchTower$ShortWords", "beginWithEmpty", "()V"⟩, 10), (⟨"SwitchTower$ShortWords", "extend", "(LSwitchTower$Machine;I)Z"⟩, 10), (⟨"SwitchTower$ShortWords", "isLaw", "(I)Z"⟩, 10), (⟨"SwitchTower$ShortWords", "lookAtParts", "(LSwitchTower$Machine;II)Z"⟩, 10), (⟨"SwitchTower$ShortWords", "addUnlike", "()Z"⟩, 10)]
theorem lw_r2 : ∀ q ∈ lw_privs_2, lw_okq q := List.forall_mem_cons.mpr ⟨lw_p16, List.forall_mem_cons.mpr ⟨lw_p17, List.forall_mem_cons.mpr ⟨lw_p18, List.forall_mem_cons.mpr ⟨lw_p19, List.forall_mem_cons.mpr ⟨lw_p20, List.forall_mem_cons.mpr ⟨lw_p21, List.forall_mem_cons.mpr ⟨lw_p22, List.forall_mem_cons.mpr ⟨lw_p23, List.forall_mem_cons.mpr ⟨lw_p24, List.forall_mem_cons.mpr ⟨lw_p25, List.forall_mem_cons.mpr ⟨lw_p26, List.forall_mem_cons.mpr ⟨lw_p27, List.forall_mem_cons.mpr ⟨lw_p28, List.forall_mem_cons.mpr ⟨lw_p29, List.forall_mem_cons.mpr ⟨lw_p30, List.forall_mem_cons.mpr ⟨lw_p31, fun _ h => absurd h List.not_mem_nil⟩⟩⟩⟩⟩⟩⟩⟩⟩⟩⟩⟩⟩⟩⟩⟩
theorem lw_p32 : lw_okq (⟨"SwitchTowerModel", "isBack", "(I)Z"⟩, 42) := ⟨⟨by decide +kernel, by decide +kernel⟩, List.mem_of_getElem? (i := 842) (by decide +kernel), List.mem_of_getElem? (i := 1016) (by decide +kernel), List.mem_of_getElem? (i := 1017) (by decide +kernel)⟩
theorem lw_p33 : lw_okq (⟨"SwitchTowerModel", "isFair", "(I)Z"⟩, 42) := ⟨⟨by decide +kernel, by decide +kernel⟩, List.mem_of_getElem? (i := 842) (by decide +kernel), List.mem_of_getElem? (i := 1020) (by decide +kernel), List.mem_of_getElem? (i := 1021) (by decide +kernel)⟩
theorem lw_p34 : lw_okq (⟨"SwitchTowerModel", "findTokens", "()V"⟩, 42) := ⟨⟨by decide +kernel, by decide +kernel⟩, List.mem_of_getElem? (i := 842) (by decide +kernel), List.mem_of_getElem? (i := 1032) (by decide +kernel), List.mem_of_getElem? (i := 1033) (by decide +kernel)⟩
theorem lw_p35 : lw_okq (⟨"SwitchTowerModel", "isWhole", "()Z"⟩, 42) := ⟨⟨by decide +kernel, by decide +kernel⟩, List.mem_of_getElem? (i := 842) (by decide +kernel), List.mem_of_getElem? (i := 1036) (by decide +kernel), List.mem_of_getElem? (i := 1037) (by decide +kernel)⟩
theorem lw_p36 : lw_okq (⟨"SwitchTowerModel", "copy", "(II)V"⟩, 42) := ⟨⟨by decide +kernel, by decide +kernel⟩, List.mem_of_getElem? (i := 842) (by decide +kernel), List.mem_of_getElem? (i := 1047) (by decide +kernel), List.mem_of_getElem? (i := 1048) (by decide +kernel)⟩
theorem lw_p37 : lw_okq (⟨"SwitchTowerModel", "add", "(II)V"⟩, 42) := ⟨⟨by decide +kernel, by decide +kernel⟩, List.mem_of_getElem? (i := 842) (by decide +kernel), List.mem_of_getElem? (i := 1051) (by decide +kernel), List.mem_of_getElem? (i := 1052) (by decide +kernel)⟩
theorem lw_p38 : lw_okq (⟨"SwitchTowerModel", "takeRow", "(II)Z"⟩, 42) := ⟨⟨by decide +kernel, by decide +kernel⟩, List.mem_of_getElem? (i := 842) (by decide +kernel), List.mem_of_getElem? (i := 1079) (by decide +kernel), List.mem_of_getElem? (i := 1080) (by decide +kernel)⟩
theorem lw_p39 : lw_okq (⟨"SwitchTowerModel", "rewrite", "(I)V"⟩, 42) := ⟨⟨by decide +kernel, by decide +kernel⟩, List.mem_of_getElem? (i := 842) (by decide +kernel), List.mem_of_getElem? (i := 1083) (by decide +kernel), List.mem_of_getElem? (i := 1084) (by decide +kernel)⟩
theorem lw_p40 : lw_okq (⟨"SwitchTowerModel", "step", "(II)V"⟩, 42) := ⟨⟨by decide +kernel, by decide +kernel⟩, List.mem_of_getElem? (i := 842) (by decide +kernel), List.mem_of_getElem? (i := 1087) (by decide +kernel), List.mem_of_getElem? (i := 1088) (by decide +kernel)⟩
theorem lw_p41 : lw_okq (⟨"SwitchTowerModel", "rowNumber", "()I"⟩, 42) := ⟨⟨by decide +kernel, by decide +kernel⟩, List.mem_of_getElem? (i := 842) (by decide +kernel), List.mem_of_getElem? (i := 1091) (by decide +kernel), List.mem_of_getElem? (i := 1092) (by decide +kernel)⟩
theorem lw_p42 : lw_okq (⟨"SwitchTowerModel", "partAtRow", "(II)V"⟩, 42) := ⟨⟨by decide +kernel, by decide +kernel⟩, List.mem_of_getElem? (i := 842) (by decide +kernel), List.mem_of_getElem? (i := 1099) (by decide +kernel), List.mem_of_getElem? (i := 1100) (by decide +kernel)⟩
theorem lw_p43 : lw_okq (⟨"SwitchTowerModel", "partAt", "(III)I"⟩, 42) := ⟨⟨by decide +kernel, by decide +kernel⟩, List.mem_of_getElem? (i := 842) (by decide +kernel), List.mem_of_getElem? (i := 1103) (by decide +kernel), List.mem_of_getElem? (i := 1104) (by decide +kernel)⟩
theorem lw_p44 : lw_okq (⟨"SwitchTowerModel", "takeTwo", "(II)I"⟩, 42) := ⟨⟨by decide +kernel, by decide +kernel⟩, List.mem_of_getElem? (i := 842) (by decide +kernel), List.mem_of_getElem? (i := 1111) (by decide +kernel), List.mem_of_getElem? (i := 1112) (by decide +kernel)⟩
theorem lw_p45 : lw_okq (⟨"SwitchTowerModel", "beginHeap", "()V"⟩, 42) := ⟨⟨by decide +kernel, by decide +kernel⟩, List.mem_of_getElem? (i := 842) (by decide +kernel), List.mem_of_getElem? (i := 1115) (by decide +kernel), List.mem_of_getElem? (i := 1116) (by decide +kernel)⟩
theorem lw_p46 : lw_okq (⟨"SwitchTowerModel", "toHeap", "(I)I"⟩, 42) := ⟨⟨by decide +kernel, by decide +kernel⟩, List.mem_of_getElem? (i := 842) (by decide +kernel), List.mem_of_getElem? (i := 1119) (by decide +kernel), List.mem_of_getElem? (i := 1120) (by decide +kernel)⟩
theorem lw_p47 : lw_okq (⟨"SwitchTowerModel", "findInHeap", "(I)I"⟩, 42) := ⟨⟨by decide +kernel, by decide +kernel⟩, List.mem_of_getElem? (i := 842) (by decide +kernel), List.mem_of_getElem? (i := 1123) (by decide +kernel), List.mem_of_getElem? (i := 1124) (by decide +kernel)⟩
def lw_privs_3 : List (MethodName × Nat) := [(⟨"SwitchTowerModel", "isBack", "(I)Z"⟩, 42), (⟨"SwitchTowerModel", "isFair", "(I)Z"⟩, 42), (⟨"SwitchTowerModel", "findTokens", "()V"⟩, 42), (⟨"SwitchTowerModel", "isWhole", "()Z"⟩, 42), (⟨"SwitchTowerModel", "copy", "(II)V"⟩, 42), (⟨"SwitchTowerModel", "add", "(II)V"⟩, 42), (⟨"SwitchTowerModel", "takeRow", "(II)Z"⟩, 42), (⟨"SwitchTowerModel", "rewrite", "(I)V"⟩, 42), (⟨"SwitchTowerModel", "step", "(II)V"⟩, 42), (⟨"SwitchTowerModel", "rowNumber", "()I"⟩, 42), (⟨"SwitchTowerModel", "partAtRow", "(II)V"⟩, 42), (⟨"SwitchTowerModel", "partAt", "(III)I"⟩, 42), (⟨"SwitchTowerModel", "takeTwo", "(II)I"⟩, 42), (⟨"SwitchTowerModel", "beginHeap", "()V"⟩, 42), (⟨"SwitchTowerModel", "toHeap", "(I)I"⟩, 42), (⟨"SwitchTowerModel", "findInHeap", "(I)I"⟩, 42)]
theorem lw_r3 : ∀ q ∈ lw_privs_3, lw_okq q := List.forall_mem_cons.mpr ⟨lw_p32, List.forall_mem_cons.mpr ⟨lw_p33, List.forall_mem_cons.mpr ⟨lw_p34, List.forall_mem_cons.mpr ⟨lw_p35, List.forall_mem_cons.mpr ⟨lw_p36, List.forall_mem_cons.mpr ⟨lw_p37, List.forall_mem_cons.mpr ⟨lw_p38, List.forall_mem_cons.mpr ⟨lw_p39, List.forall_mem_cons.mpr ⟨lw_p40, List.forall_mem_cons.mpr ⟨lw_p41, List.forall_mem_cons.mpr ⟨lw_p42, List.forall_mem_cons.mpr ⟨lw_p43, List.forall_mem_cons.mpr ⟨lw_p44, List.forall_mem_cons.mpr ⟨lw_p45, List.forall_mem_cons.mpr ⟨lw_p46, List.forall_mem_cons.mpr ⟨lw_p47, fun _ h => absurd h List.not_mem_nil⟩⟩⟩⟩⟩⟩⟩⟩⟩⟩⟩⟩⟩⟩⟩⟩
theorem lw_p48 : lw_okq (⟨"SwitchTowerModel", "grow", "()Z"⟩, 42) := ⟨⟨by decide +kernel, by decide +kernel⟩, List.mem_of_getElem? (i := 842) (by decide +kernel), List.mem_of_getElem? (i := 1127) (by decide +kernel), List.mem_of_getElem? (i := 1128) (by decide +kernel)⟩
theorem lw_p49 : lw_okq (⟨"SwitchTowerModel", "fromHeap", "(II)V"⟩, 42) := ⟨⟨by decide +kernel, by decide +kernel⟩, List.mem_of_getElem? (i := 842) (by decide +kernel), List.mem_of_getElem? (i := 1131) (by decide +kernel), List.mem_of_getElem? (i := 1132) (by decide +kernel)⟩
theorem lw_p50 : lw_okq (⟨"SwitchTowerModel", "partAll", "()I"⟩, 42) := ⟨⟨by decide +kernel, by decide +kernel⟩, List.mem_of_getElem? (i := 842) (by decide +kernel), List.mem_of_getElem? (i := 1135) (by decide +kernel), List.mem_of_getElem? (i := 1136) (by decide +kernel)⟩
theorem lw_p51 : lw_okq (⟨"SwitchTowerModel", "partOnce", "()I"⟩, 42) := ⟨⟨by decide +kernel, by decide +kernel⟩, List.mem_of_getElem? (i := 842) (by decide +kernel), List.mem_of_getElem? (i := 1139) (by decide +kernel), List.mem_of_getElem? (i := 1140) (by decide +kernel)⟩
theorem lw_p52 : lw_okq (⟨"SwitchTowerModel", "isSameNow", "(II)Z"⟩, 42) := ⟨⟨by decide +kernel, by decide +kernel⟩, List.mem_of_getElem? (i := 842) (by decide +kernel), List.mem_of_getElem? (i := 1143) (by decide +kernel), List.mem_of_getElem? (i := 1144) (by decide +kernel)⟩
theorem lw_p53 : lw_okq (⟨"SwitchTowerModel", "isParted", "(IIII)Z"⟩, 42) := ⟨⟨by decide +kernel, by decide +kernel⟩, List.mem_of_getElem? (i := 842) (by decide +kernel), List.mem_of_getElem? (i := 1151) (by decide +kernel), List.mem_of_getElem? (i := 1152) (by decide +kernel)⟩
theorem lw_p54 : lw_okq (⟨"SwitchTowerModel", "rowsOf", "(II)I"⟩, 42) := ⟨⟨by decide +kernel, by decide +kernel⟩, List.mem_of_getElem? (i := 842) (by decide +kernel), List.mem_of_getElem? (i := 1167) (by decide +kernel), List.mem_of_getElem? (i := 1168) (by decide +kernel)⟩
theorem lw_p55 : lw_okq (⟨"SwitchTowerModel", "isTokenBack", "(I)Z"⟩, 42) := ⟨⟨by decide +kernel, by decide +kernel⟩, List.mem_of_getElem? (i := 842) (by decide +kernel), List.mem_of_getElem? (i := 1171) (by decide +kernel), List.mem_of_getElem? (i := 1172) (by decide +kernel)⟩
theorem lw_p56 : lw_okq (⟨"SwitchTowerModel", "rowAt", "(II)V"⟩, 42) := ⟨⟨by decide +kernel, by decide +kernel⟩, List.mem_of_getElem? (i := 842) (by decide +kernel), List.mem_of_getElem? (i := 1175) (by decide +kernel), List.mem_of_getElem? (i := 1176) (by decide +kernel)⟩
theorem lw_p57 : lw_okq (⟨"SwitchTowerModel", "placeNow", "()I"⟩, 42) := ⟨⟨by decide +kernel, by decide +kernel⟩, List.mem_of_getElem? (i := 842) (by decide +kernel), List.mem_of_getElem? (i := 1179) (by decide +kernel), List.mem_of_getElem? (i := 1180) (by decide +kernel)⟩
theorem lw_p58 : lw_okq (⟨"SwitchTowerModel", "findLevel", "(I)V"⟩, 42) := ⟨⟨by decide +kernel, by decide +kernel⟩, List.mem_of_getElem? (i := 842) (by decide +kernel), List.mem_of_getElem? (i := 1191) (by decide +kernel), List.mem_of_getElem? (i := 1192) (by decide +kernel)⟩
theorem lw_p59 : lw_okq (⟨"SwitchTowerModel", "takeLevel", "(I)I"⟩, 42) := ⟨⟨by decide +kernel, by decide +kernel⟩, List.mem_of_getElem? (i := 842) (by decide +kernel), List.mem_of_getElem? (i := 1200) (by decide +kernel), List.mem_of_getElem? (i := 1201) (by decide +kernel)⟩
theorem lw_p60 : lw_okq (⟨"SwitchTowerModel", "findFar", "(I)V"⟩, 42) := ⟨⟨by decide +kernel, by decide +kernel⟩, List.mem_of_getElem? (i := 842) (by decide +kernel), List.mem_of_getElem? (i := 1204) (by decide +kernel), List.mem_of_getElem? (i := 1205) (by decide +kernel)⟩
theorem lw_p61 : lw_okq (⟨"SwitchTowerModel", "takeRows", "(II)I"⟩, 42) := ⟨⟨by decide +kernel, by decide +kernel⟩, List.mem_of_getElem? (i := 842) (by decide +kernel), List.mem_of_getElem? (i := 1212) (by decide +kernel), List.mem_of_getElem? (i := 1213) (by decide +kernel)⟩
theorem lw_p62 : lw_okq (⟨"SwitchTowerModel", "findFarTo", "(I)V"⟩, 42) := ⟨⟨by decide +kernel, by decide +kernel⟩, List.mem_of_getElem? (i := 842) (by decide +kernel), List.mem_of_getElem? (i := 1221) (by decide +kernel), List.mem_of_getElem? (i := 1222) (by decide +kernel)⟩
theorem lw_p63 : lw_okq (⟨"SwitchTowerModel", "toGroup", "(J)Z"⟩, 42) := ⟨⟨by decide +kernel, by decide +kernel⟩, List.mem_of_getElem? (i := 842) (by decide +kernel), List.mem_of_getElem? (i := 1234) (by decide +kernel), List.mem_of_getElem? (i := 1235) (by decide +kernel)⟩
def lw_privs_4 : List (MethodName × Nat) := [(⟨"SwitchTowerModel", "grow", "()Z"⟩, 42), (⟨"SwitchTowerModel", "fromHeap", "(II)V"⟩, 42), (⟨"SwitchTowerModel", "partAll", "()I"⟩, 42), (⟨"SwitchTowerModel", "partOnce", "()I"⟩, 42), (⟨"SwitchTowerModel", "isSameNow", "(II)Z"⟩, 42), (⟨"SwitchTowerModel", "isParted", "(IIII)Z"⟩, 42), (⟨"SwitchTowerModel", "rowsOf", "(II)I"⟩, 42), (⟨"SwitchTowerModel", "isTokenBack", "(I)Z"⟩, 42), (⟨"SwitchTowerModel", "rowAt", "(II)V"⟩, 42), (⟨"SwitchTowerModel", "placeNow", "()I"⟩, 42), (⟨"SwitchTowerModel", "findLevel", "(I)V"⟩, 42), (⟨"SwitchTowerModel", "takeLevel", "(I)I"⟩, 42), (⟨"SwitchTowerModel", "findFar", "(I)V"⟩, 42), (⟨"SwitchTowerModel", "takeRows", "(II)I"⟩, 42), (⟨"SwitchTowerModel", "findFarTo", "(I)V"⟩, 42), (⟨"SwitchTowerModel", "toGroup", "(J)Z"⟩, 42)]
theorem lw_r4 : ∀ q ∈ lw_privs_4, lw_okq q := List.forall_mem_cons.mpr ⟨lw_p48, List.forall_mem_cons.mpr ⟨lw_p49, List.forall_mem_cons.mpr ⟨lw_p50, List.forall_mem_cons.mpr ⟨lw_p51, List.forall_mem_cons.mpr ⟨lw_p52, List.forall_mem_cons.mpr ⟨lw_p53, List.forall_mem_cons.mpr ⟨lw_p54, List.forall_mem_cons.mpr ⟨lw_p55, List.forall_mem_cons.mpr ⟨lw_p56, List.forall_mem_cons.mpr ⟨lw_p57, List.forall_mem_cons.mpr ⟨lw_p58, List.forall_mem_cons.mpr ⟨lw_p59, List.forall_mem_cons.mpr ⟨lw_p60, List.forall_mem_cons.mpr ⟨lw_p61, List.forall_mem_cons.mpr ⟨lw_p62, List.forall_mem_cons.mpr ⟨lw_p63, fun _ h => absurd h List.not_mem_nil⟩⟩⟩⟩⟩⟩⟩⟩⟩⟩⟩⟩⟩⟩⟩⟩
theorem lw_p64 : lw_okq (⟨"SwitchTowerModel", "made", "(JI)J"⟩, 42) := ⟨⟨by decide +kernel, by decide +kernel⟩, List.mem_of_getElem? (i := 842) (by decide +kernel), List.mem_of_getElem? (i := 1239) (by decide +kernel), List.mem_of_getElem? (i := 1240) (by decide +kernel)⟩
theorem lw_p65 : lw_okq (⟨"SwitchTowerModel", "takeShort", "(I)I"⟩, 42) := ⟨⟨by decide +kernel, by decide +kernel⟩, List.mem_of_getElem? (i := 842) (by decide +kernel), List.mem_of_getElem? (i := 1248) (by decide +kernel), List.mem_of_getElem? (i := 1249) (by decide +kernel)⟩
theorem lw_p66 : lw_okq (⟨"SwitchTowerModel", "findLaw", "(I)I"⟩, 42) := ⟨⟨by decide +kernel, by decide +kernel⟩, List.mem_of_getElem? (i := 842) (by decide +kernel), List.mem_of_getElem? (i := 1257) (by decide +kernel), List.mem_of_getElem? (i := 1258) (by decide +kernel)⟩
theorem lw_p67 : lw_okq (⟨"SwitchTowerModel", "beginFall", "()Z"⟩, 42) := ⟨⟨by decide +kernel, by decide +kernel⟩, List.mem_of_getElem? (i := 842) (by decide +kernel), List.mem_of_getElem? (i := 1269) (by decide +kernel), List.mem_of_getElem? (i := 1270) (by decide +kernel)⟩
theorem lw_p68 : lw_okq (⟨"SwitchTowerModel", "fallsAll", "(I)Z"⟩, 42) := ⟨⟨by decide +kernel, by decide +kernel⟩, List.mem_of_getElem? (i := 842) (by decide +kernel), List.mem_of_getElem? (i := 1273) (by decide +kernel), List.mem_of_getElem? (i := 1274) (by decide +kernel)⟩
theorem lw_p69 : lw_okq (⟨"SwitchTowerModel", "falls", "(I)Z"⟩, 42) := ⟨⟨by decide +kernel, by decide +kernel⟩, List.mem_of_getElem? (i := 842) (by decide +kernel), List.mem_of_getElem? (i := 1277) (by decide +kernel), List.mem_of_getElem? (i := 1278) (by decide +kernel)⟩
def lw_privs_5 : List (MethodName × Nat) := [(⟨"SwitchTowerModel", "made", "(JI)J"⟩, 42), (⟨"SwitchTowerModel", "takeShort", "(I)I"⟩, 42), (⟨"SwitchTowerModel", "findLaw", "(I)I"⟩, 42), (⟨"SwitchTowerModel", "beginFall", "()Z"⟩, 42), (⟨"SwitchTowerModel", "fallsAll", "(I)Z"⟩, 42), (⟨"SwitchTowerModel", "falls", "(I)Z"⟩, 42)]
theorem lw_r5 : ∀ q ∈ lw_privs_5, lw_okq q := List.forall_mem_cons.mpr ⟨lw_p64, List.forall_mem_cons.mpr ⟨lw_p65, List.forall_mem_cons.mpr ⟨lw_p66, List.forall_mem_cons.mpr ⟨lw_p67, List.forall_mem_cons.mpr ⟨lw_p68, List.forall_mem_cons.mpr ⟨lw_p69, fun _ h => absurd h List.not_mem_nil⟩⟩⟩⟩⟩⟩
def lw_privs : List (MethodName × Nat) := lw_privs_1 ++ (lw_privs_2 ++ (lw_privs_3 ++ (lw_privs_4 ++ (lw_privs_5))))
def lw_tbl : List Cond := k2_sels lw_privs ++ tables_1
theorem lw_privs_ok : ∀ q ∈ lw_privs, lw_okq q := by
  show ∀ q ∈ lw_privs_1 ++ (lw_privs_2 ++ (lw_privs_3 ++ (lw_privs_4 ++ (lw_privs_5)))), lw_okq q
  exact List.forall_mem_append.mpr ⟨lw_r1, List.forall_mem_append.mpr ⟨lw_r2, List.forall_mem_append.mpr ⟨lw_r3, List.forall_mem_append.mpr ⟨lw_r4, lw_r5⟩⟩⟩⟩
end
section
def RX0 : String := "SwitchTower$KeyTable"
def TX0 : u_T := fun k => match k with
  | 0 => ("SwitchTower$KeyTable", "keys", "[J", true)
  | 1 => ("SwitchTower$KeyTable", "tails", "[I", true)
  | 2 => ("SwitchTower$KeyTable", "slots", "[I", true)
  | 3 => ("SwitchTower$KeyTable", "count", "I", false)
  | _ => ("SwitchTower$KeyTable", "stamp", "I", false)
def tyX0 : Nat → FieldType := fun k => match k with
  | 0 => .array .long
  | 1 => .array .int
  | 2 => .array .int
  | 3 => .int
  | _ => .int
theorem nmX0 : ∀ a, a < 5 → ∀ b, b < 5 → a ≠ b → (TX0 a).2.1 ≠ (TX0 b).2.1 := by decide +kernel
theorem tyX0_ok : ∀ k, k < 5 → parseFieldDescriptor (TX0 k).2.2.1 = some (tyX0 k) := by decide +kernel
abbrev cX0_init : ByteArray := prog_2_method_1_code
def yX0_init : MethodName := ⟨RX0, "<init>", "(II)V"⟩
abbrev cX0_clear : ByteArray := prog_2_method_2_code
def yX0_clear : MethodName := ⟨RX0, "clear", "()V"⟩
abbrev cX0_find : ByteArray := prog_2_method_3_code
def yX0_find : MethodName := ⟨RX0, "find", "(JI)I"⟩
abbrev cX0_add : ByteArray := prog_2_method_4_code
def yX0_add : MethodName := ⟨RX0, "add", "(JI)I"⟩
abbrev cX0_slotOf : ByteArray := prog_2_method_5_code
def yX0_slotOf : MethodName := ⟨RX0, "slotOf", "(JI)I"⟩
def RX1 : String := "SwitchTower$LevelGroup"
def TX1 : u_T := fun k => match k with
  | 0 => ("SwitchTower$LevelGroup", "members", "LSwitchTower$KeyTable;", true)
  | 1 => ("SwitchTower$LevelGroup", "generators", "[J", true)
  | 2 => ("SwitchTower$LevelGroup", "generatorCount", "I", false)
  | _ => ("SwitchTower$LevelGroup", "points", "I", false)
def tyX1 : Nat → FieldType := fun k => match k with
  | 0 => .object "SwitchTower$KeyTable"
  | 1 => .array .long
  | 2 => .int
  | _ => .int
theorem nmX1 : ∀ a, a < 4 → ∀ b, b < 4 → a ≠ b → (TX1 a).2.1 ≠ (TX1 b).2.1 := by decide +kernel
theorem tyX1_ok : ∀ k, k < 4 → parseFieldDescriptor (TX1 k).2.2.1 = some (tyX1 k) := by decide +kernel
abbrev cX1_init : ByteArray := prog_3_method_1_code
def yX1_init : MethodName := ⟨RX1, "<init>", "()V"⟩
abbrev cX1_begin : ByteArray := prog_3_method_2_code
def yX1_begin : MethodName := ⟨RX1, "begin", "(I)V"⟩
abbrev cX1_bringIn : ByteArray := prog_3_method_3_code
def yX1_bringIn : MethodName := ⟨RX1, "bringIn", "(J)Z"⟩
abbrev cX1_addBlock : ByteArray := prog_3_method_4_code
def yX1_addBlock : MethodName := ⟨RX1, "addBlock", "(IJ)Z"⟩
abbrev cX1_behind : ByteArray := prog_3_method_5_code
def yX1_behind : MethodName := ⟨RX1, "behind", "(JJ)J"⟩
def RX2 : String := "SwitchTower$Levels"
def TX2 : u_T := fun k => match k with
  | 0 => ("SwitchTower$Levels", "table", "[I", true)
  | 1 => ("SwitchTower$Levels", "width", "[I", true)
  | 2 => ("SwitchTower$Levels", "start", "[I", true)
  | 3 => ("SwitchTower$Levels", "distance", "[I", true)
  | 4 => ("SwitchTower$Levels", "queue", "[I", true)
  | 5 => ("SwitchTower$Levels", "cameFrom", "[I", true)
  | 6 => ("SwitchTower$Levels", "cameBy", "[I", true)
  | _ => ("SwitchTower$Levels", "built", "I", false)
def tyX2 : Nat → FieldType := fun k => match k with
  | 0 => .array .int
  | 1 => .array .int
  | 2 => .array .int
  | 3 => .array .int
  | 4 => .array .int
  | 5 => .array .int
  | 6 => .array .int
  | _ => .int
theorem nmX2 : ∀ a, a < 8 → ∀ b, b < 8 → a ≠ b → (TX2 a).2.1 ≠ (TX2 b).2.1 := by decide +kernel
theorem tyX2_ok : ∀ k, k < 8 → parseFieldDescriptor (TX2 k).2.2.1 = some (tyX2 k) := by decide +kernel
abbrev cX2_init : ByteArray := prog_4_method_1_code
def yX2_init : MethodName := ⟨RX2, "<init>", "()V"⟩
abbrev cX2_forget : ByteArray := prog_4_method_2_code
def yX2_forget : MethodName := ⟨RX2, "forget", "()V"⟩
abbrev cX2_forgetRows : ByteArray := prog_4_method_3_code
def yX2_forgetRows : MethodName := ⟨RX2, "forgetRows", "()V"⟩
abbrev cX2_build : ByteArray := prog_4_method_4_code
def yX2_build : MethodName := ⟨RX2, "build", "(LSwitchTower$Machine;I)V"⟩
abbrev cX2_buildBranch : ByteArray := prog_4_method_5_code
def yX2_buildBranch : MethodName := ⟨RX2, "buildBranch", "(LSwitchTower$Machine;III)V"⟩
abbrev cX2_spread : ByteArray := prog_4_method_6_code
def yX2_spread : MethodName := ⟨RX2, "spread", "(LSwitchTower$Machine;IIZ)I"⟩
abbrev cX2_countBackOrbits : ByteArray := prog_4_method_7_code
def yX2_countBackOrbits : MethodName := ⟨RX2, "countBackOrbits", "(LSwitchTower$Machine;I)I"⟩
abbrev cX2_markOfMove : ByteArray := prog_4_method_8_code
def yX2_markOfMove : MethodName := ⟨RX2, "markOfMove", "(III)I"⟩
abbrev cX2_roundsToRest : ByteArray := prog_4_method_9_code
def yX2_roundsToRest : MethodName := ⟨RX2, "roundsToRest", "(LSwitchTower$Word;I)I"⟩
abbrev cX2_ringLength : ByteArray := prog_4_method_10_code
def yX2_ringLength : MethodName := ⟨RX2, "ringLength", "(LSwitchTower$Word;II)I"⟩
abbrev cX2_commonDivisor : ByteArray := prog_4_method_11_code
def yX2_commonDivisor : MethodName := ⟨RX2, "commonDivisor", "(JJ)J"⟩
abbrev cX2_packed : ByteArray := prog_4_method_12_code
def yX2_packed : MethodName := ⟨RX2, "packed", "(II)J"⟩
def RX3 : String := "SwitchTower$Machine"
def TX3 : u_T := fun k => match k with
  | 0 => ("SwitchTower$Machine", "writes", "[I", true)
  | 1 => ("SwitchTower$Machine", "goes", "[I", true)
  | 2 => ("SwitchTower$Machine", "markWrites", "[I", true)
  | 3 => ("SwitchTower$Machine", "markGoes", "[I", true)
  | 4 => ("SwitchTower$Machine", "marks", "[I", true)
  | 5 => ("SwitchTower$Machine", "markCount", "I", false)
  | 6 => ("SwitchTower$Machine", "letters", "I", false)
  | 7 => ("SwitchTower$Machine", "states", "I", false)
  | 8 => ("SwitchTower$Machine", "backs", "I", false)
  | _ => ("SwitchTower$Machine", "whole", "Z", false)
def tyX3 : Nat → FieldType := fun k => match k with
  | 0 => .array .int
  | 1 => .array .int
  | 2 => .array .int
  | 3 => .array .int
  | 4 => .array .int
  | 5 => .int
  | 6 => .int
  | 7 => .int
  | 8 => .int
  | _ => .boolean
theorem nmX3 : ∀ a, a < 10 → ∀ b, b < 10 → a ≠ b → (TX3 a).2.1 ≠ (TX3 b).2.1 := by decide +kernel
theorem tyX3_ok : ∀ k, k < 10 → parseFieldDescriptor (TX3 k).2.2.1 = some (tyX3 k) := by decide +kernel
abbrev cX3_init : ByteArray := prog_5_method_1_code
def yX3_init : MethodName := ⟨RX3, "<init>", "()V"⟩
abbrev cX3_restart : ByteArray := prog_5_method_2_code
def yX3_restart : MethodName := ⟨RX3, "restart", "(I)V"⟩
abbrev cX3_isState : ByteArray := prog_5_method_3_code
def yX3_isState : MethodName := ⟨RX3, "isState", "(I)Z"⟩
abbrev cX3_isLetter : ByteArray := prog_5_method_4_code
def yX3_isLetter : MethodName := ⟨RX3, "isLetter", "(I)Z"⟩
abbrev cX3_isBack : ByteArray := prog_5_method_5_code
def yX3_isBack : MethodName := ⟨RX3, "isBack", "(I)Z"⟩
abbrev cX3_canRead : ByteArray := prog_5_method_6_code
def yX3_canRead : MethodName := ⟨RX3, "canRead", "(LSwitchTower$Sheet;I)Z"⟩
abbrev cX3_read : ByteArray := prog_5_method_7_code
def yX3_read : MethodName := ⟨RX3, "read", "(LSwitchTower$Sheet;I)V"⟩
abbrev cX3_rewire : ByteArray := prog_5_method_8_code
def yX3_rewire : MethodName := ⟨RX3, "rewire", "(IIII)V"⟩
abbrev cX3_refresh : ByteArray := prog_5_method_9_code
def yX3_refresh : MethodName := ⟨RX3, "refresh", "()V"⟩
abbrev cX3_goals : ByteArray := prog_5_method_10_code
def yX3_goals : MethodName := ⟨RX3, "goals", "(I)I"⟩
abbrev cX3_writesUnlike : ByteArray := prog_5_method_11_code
def yX3_writesUnlike : MethodName := ⟨RX3, "writesUnlike", "(I)Z"⟩
abbrev cX3_listMarks : ByteArray := prog_5_method_12_code
def yX3_listMarks : MethodName := ⟨RX3, "listMarks", "()V"⟩
abbrev cX3_wireMarks : ByteArray := prog_5_method_13_code
def yX3_wireMarks : MethodName := ⟨RX3, "wireMarks", "(II)V"⟩
abbrev cX3_rowLength : ByteArray := prog_5_method_14_code
def yX3_rowLength : MethodName := ⟨RX3, "rowLength", "(I)I"⟩
abbrev cX3_hasLetters : ByteArray := prog_5_method_15_code
def yX3_hasLetters : MethodName := ⟨RX3, "hasLetters", "(II)Z"⟩
abbrev cX3_rowIndex : ByteArray := prog_5_method_16_code
def yX3_rowIndex : MethodName := ⟨RX3, "rowIndex", "(II)I"⟩
abbrev cX3_power : ByteArray := prog_5_method_17_code
def yX3_power : MethodName := ⟨RX3, "power", "(II)I"⟩
def RX4 : String := "SwitchTower$Pool"
def TX4 : u_T := fun k => match k with
  | 0 => ("SwitchTower$Pool", "words", "LSwitchTower$KeyTable;", true)
  | 1 => ("SwitchTower$Pool", "signs", "LSwitchTower$KeyTable;", true)
  | 2 => ("SwitchTower$Pool", "parts", "[I", true)
  | 3 => ("SwitchTower$Pool", "writings", "[I", true)
  | 4 => ("SwitchTower$Pool", "kindOf", "[I", true)
  | 5 => ("SwitchTower$Pool", "nextKindOf", "[I", true)
  | 6 => ("SwitchTower$Pool", "rounds", "[I", true)
  | 7 => ("SwitchTower$Pool", "scratch", "LSwitchTower$Word;", true)
  | 8 => ("SwitchTower$Pool", "letters", "I", false)
  | 9 => ("SwitchTower$Pool", "followed", "I", false)
  | 10 => ("SwitchTower$Pool", "classified", "I", false)
  | 11 => ("SwitchTower$Pool", "kinds", "I", false)
  | _ => ("SwitchTower$Pool", "roundCount", "I", false)
def tyX4 : Nat → FieldType := fun k => match k with
  | 0 => .object "SwitchTower$KeyTable"
  | 1 => .object "SwitchTower$KeyTable"
  | 2 => .array .int
  | 3 => .array .int
  | 4 => .array .int
  | 5 => .array .int
  | 6 => .array .int
  | 7 => .object "SwitchTower$Word"
  | 8 => .int
  | 9 => .int
  | 10 => .int
  | 11 => .int
  | _ => .int
theorem nmX4 : ∀ a, a < 13 → ∀ b, b < 13 → a ≠ b → (TX4 a).2.1 ≠ (TX4 b).2.1 := by decide +kernel
theorem tyX4_ok : ∀ k, k < 13 → parseFieldDescriptor (TX4 k).2.2.1 = some (tyX4 k) := by decide +kernel
abbrev cX4_init : ByteArray := prog_6_method_1_code
def yX4_init : MethodName := ⟨RX4, "<init>", "()V"⟩
abbrev cX4_reset : ByteArray := prog_6_method_2_code
def yX4_reset : MethodName := ⟨RX4, "reset", "()V"⟩
abbrev cX4_indexOf : ByteArray := prog_6_method_3_code
def yX4_indexOf : MethodName := ⟨RX4, "indexOf", "(LSwitchTower$Word;)I"⟩
abbrev cX4_load : ByteArray := prog_6_method_4_code
def yX4_load : MethodName := ⟨RX4, "load", "(ILSwitchTower$Word;)V"⟩
abbrev cX4_enter : ByteArray := prog_6_method_5_code
def yX4_enter : MethodName := ⟨RX4, "enter", "(LSwitchTower$Word;)I"⟩
abbrev cX4_take : ByteArray := prog_6_method_6_code
def yX4_take : MethodName := ⟨RX4, "take", "(LSwitchTower$Machine;LSwitchTower$Word;)I"⟩
abbrev cX4_followParts : ByteArray := prog_6_method_7_code
def yX4_followParts : MethodName := ⟨RX4, "followParts", "(LSwitchTower$Machine;)Z"⟩
abbrev cX4_classify : ByteArray := prog_6_method_8_code
def yX4_classify : MethodName := ⟨RX4, "classify", "()V"⟩
abbrev cX4_refine : ByteArray := prog_6_method_9_code
def yX4_refine : MethodName := ⟨RX4, "refine", "()V"⟩
abbrev cX4_keepRound : ByteArray := prog_6_method_10_code
def yX4_keepRound : MethodName := ⟨RX4, "keepRound", "()V"⟩
abbrev cX4_areAlike : ByteArray := prog_6_method_11_code
def yX4_areAlike : MethodName := ⟨RX4, "areAlike", "(II)Z"⟩
abbrev cX4_arePartedBy : ByteArray := prog_6_method_12_code
def yX4_arePartedBy : MethodName := ⟨RX4, "arePartedBy", "(III)Z"⟩
abbrev cX4_partingRow : ByteArray := prog_6_method_13_code
def yX4_partingRow : MethodName := ⟨RX4, "partingRow", "(II)I"⟩
abbrev cX4_firstPartingLetter : ByteArray := prog_6_method_14_code
def yX4_firstPartingLetter : MethodName := ⟨RX4, "firstPartingLetter", "(III)I"⟩
abbrev cX4_firstUnlikeLetter : ByteArray := prog_6_method_15_code
def yX4_firstUnlikeLetter : MethodName := ⟨RX4, "firstUnlikeLetter", "(I)I"⟩
def RX5 : String := "SwitchTower$Sheet"
def TX5 : u_T := fun k => match k with
  | 0 => ("SwitchTower$Sheet", "numbers", "[I", true)
  | 1 => ("SwitchTower$Sheet", "there", "Z", false)
  | 2 => ("SwitchTower$Sheet", "kind", "I", false)
  | _ => ("SwitchTower$Sheet", "count", "I", false)
def tyX5 : Nat → FieldType := fun k => match k with
  | 0 => .array .int
  | 1 => .boolean
  | 2 => .int
  | _ => .int
theorem nmX5 : ∀ a, a < 4 → ∀ b, b < 4 → a ≠ b → (TX5 a).2.1 ≠ (TX5 b).2.1 := by decide +kernel
theorem tyX5_ok : ∀ k, k < 4 → parseFieldDescriptor (TX5 k).2.2.1 = some (tyX5 k) := by decide +kernel
abbrev cX5_init : ByteArray := prog_7_method_1_code
def yX5_init : MethodName := ⟨RX5, "<init>", "()V"⟩
abbrev cX5_lay : ByteArray := prog_7_method_2_code
def yX5_lay : MethodName := ⟨RX5, "lay", "(II)V"⟩
abbrev cX5_hasNumber : ByteArray := prog_7_method_3_code
def yX5_hasNumber : MethodName := ⟨RX5, "hasNumber", "(I)Z"⟩
abbrev cX5_hasPair : ByteArray := prog_7_method_4_code
def yX5_hasPair : MethodName := ⟨RX5, "hasPair", "(II)Z"⟩
abbrev cX5_write : ByteArray := prog_7_method_5_code
def yX5_write : MethodName := ⟨RX5, "write", "(II)V"⟩
def RX6 : String := "SwitchTower$ShortWords"
def TX6 : u_T := fun k => match k with
  | 0 => ("SwitchTower$ShortWords", "pool", "LSwitchTower$Pool;", true)
  | 1 => ("SwitchTower$ShortWords", "word", "LSwitchTower$Word;", true)
  | 2 => ("SwitchTower$ShortWords", "part", "LSwitchTower$Word;", true)
  | 3 => ("SwitchTower$ShortWords", "fallenWords", "[I", true)
  | 4 => ("SwitchTower$ShortWords", "looked", "[I", true)
  | 5 => ("SwitchTower$ShortWords", "hasKind", "[I", true)
  | 6 => ("SwitchTower$ShortWords", "fallenCount", "I", false)
  | 7 => ("SwitchTower$ShortWords", "lookedCount", "I", false)
  | 8 => ("SwitchTower$ShortWords", "asked", "I", false)
  | _ => ("SwitchTower$ShortWords", "fits", "Z", false)
def tyX6 : Nat → FieldType := fun k => match k with
  | 0 => .object "SwitchTower$Pool"
  | 1 => .object "SwitchTower$Word"
  | 2 => .object "SwitchTower$Word"
  | 3 => .array .int
  | 4 => .array .int
  | 5 => .array .int
  | 6 => .int
  | 7 => .int
  | 8 => .int
  | _ => .boolean
theorem nmX6 : ∀ a, a < 10 → ∀ b, b < 10 → a ≠ b → (TX6 a).2.1 ≠ (TX6 b).2.1 := by decide +kernel
theorem tyX6_ok : ∀ k, k < 10 → parseFieldDescriptor (TX6 k).2.2.1 = some (tyX6 k) := by decide +kernel
abbrev cX6_init : ByteArray := prog_8_method_1_code
def yX6_init : MethodName := ⟨RX6, "<init>", "()V"⟩
abbrev cX6_forget : ByteArray := prog_8_method_2_code
def yX6_forget : MethodName := ⟨RX6, "forget", "()V"⟩
abbrev cX6_gatherWithin : ByteArray := prog_8_method_3_code
def yX6_gatherWithin : MethodName := ⟨RX6, "gatherWithin", "(LSwitchTower$Machine;I)I"⟩
abbrev cX6_enterWithin : ByteArray := prog_8_method_4_code
def yX6_enterWithin : MethodName := ⟨RX6, "enterWithin", "(LSwitchTower$Machine;I)Z"⟩
abbrev cX6_beginWithEmpty : ByteArray := prog_8_method_5_code
def yX6_beginWithEmpty : MethodName := ⟨RX6, "beginWithEmpty", "()V"⟩
abbrev cX6_extend : ByteArray := prog_8_method_6_code
def yX6_extend : MethodName := ⟨RX6, "extend", "(LSwitchTower$Machine;I)Z"⟩
abbrev cX6_isLaw : ByteArray := prog_8_method_7_code
def yX6_isLaw : MethodName := ⟨RX6, "isLaw", "(I)Z"⟩
abbrev cX6_countLaws : ByteArray := prog_8_method_8_code
def yX6_countLaws : MethodName := ⟨RX6, "countLaws", "()I"⟩
abbrev cX6_findLaw : ByteArray := prog_8_method_9_code
def yX6_findLaw : MethodName := ⟨RX6, "findLaw", "(I)I"⟩
abbrev cX6_gatherFallen : ByteArray := prog_8_method_10_code
def yX6_gatherFallen : MethodName := ⟨RX6, "gatherFallen", "(LSwitchTower$Machine;I)I"⟩
abbrev cX6_lookAtParts : ByteArray := prog_8_method_11_code
def yX6_lookAtParts : MethodName := ⟨RX6, "lookAtParts", "(LSwitchTower$Machine;II)Z"⟩
abbrev cX6_addUnlike : ByteArray := prog_8_method_12_code
def yX6_addUnlike : MethodName := ⟨RX6, "addUnlike", "()Z"⟩
def RX7 : String := "SwitchTower$Word"
def TX7 : u_T := fun k => match k with
  | 0 => ("SwitchTower$Word", "marks", "J", false)
  | _ => ("SwitchTower$Word", "length", "I", false)
def tyX7 : Nat → FieldType := fun k => match k with
  | 0 => .long
  | _ => .int
theorem nmX7 : ∀ a, a < 2 → ∀ b, b < 2 → a ≠ b → (TX7 a).2.1 ≠ (TX7 b).2.1 := by decide +kernel
theorem tyX7_ok : ∀ k, k < 2 → parseFieldDescriptor (TX7 k).2.2.1 = some (tyX7 k) := by decide +kernel
abbrev cX7_init : ByteArray := prog_9_method_1_code
def yX7_init : MethodName := ⟨RX7, "<init>", "()V"⟩
abbrev cX7_empty : ByteArray := prog_9_method_2_code
def yX7_empty : MethodName := ⟨RX7, "empty", "()V"⟩
abbrev cX7_copy : ByteArray := prog_9_method_3_code
def yX7_copy : MethodName := ⟨RX7, "copy", "(LSwitchTower$Word;)V"⟩
abbrev cX7_mark : ByteArray := prog_9_method_4_code
def yX7_mark : MethodName := ⟨RX7, "mark", "(I)I"⟩
abbrev cX7_push : ByteArray := prog_9_method_5_code
def yX7_push : MethodName := ⟨RX7, "push", "(I)Z"⟩
abbrev cX7_descend : ByteArray := prog_9_method_6_code
def yX7_descend : MethodName := ⟨RX7, "descend", "(LSwitchTower$Machine;I)I"⟩
def RX8 : String := "SwitchTower"
def TX8 : u_T := fun k => match k with
  | 0 => ("SwitchTower", "sheets", "[LSwitchTower$Sheet;", true)
  | 1 => ("SwitchTower", "spots", "[LSwitchTower$Word;", true)
  | 2 => ("SwitchTower", "given", "[I", true)
  | 3 => ("SwitchTower", "scratch", "LSwitchTower$Word;", true)
  | 4 => ("SwitchTower", "machine", "LSwitchTower$Machine;", true)
  | 5 => ("SwitchTower", "levels", "LSwitchTower$Levels;", true)
  | 6 => ("SwitchTower", "levelGroup", "LSwitchTower$LevelGroup;", true)
  | 7 => ("SwitchTower", "pool", "LSwitchTower$Pool;", true)
  | _ => ("SwitchTower", "shortWords", "LSwitchTower$ShortWords;", true)
def tyX8 : Nat → FieldType := fun k => match k with
  | 0 => .array (.object "SwitchTower$Sheet")
  | 1 => .array (.object "SwitchTower$Word")
  | 2 => .array .int
  | 3 => .object "SwitchTower$Word"
  | 4 => .object "SwitchTower$Machine"
  | 5 => .object "SwitchTower$Levels"
  | 6 => .object "SwitchTower$LevelGroup"
  | 7 => .object "SwitchTower$Pool"
  | _ => .object "SwitchTower$ShortWords"
theorem nmX8 : ∀ a, a < 9 → ∀ b, b < 9 → a ≠ b → (TX8 a).2.1 ≠ (TX8 b).2.1 := by decide +kernel
theorem tyX8_ok : ∀ k, k < 9 → parseFieldDescriptor (TX8 k).2.2.1 = some (tyX8 k) := by decide +kernel
abbrev cX8_init : ByteArray := prog_1_method_1_code
def yX8_init : MethodName := ⟨RX8, "<init>", "()V"⟩
abbrev cX8_sheet : ByteArray := prog_1_method_2_code
def yX8_sheet : MethodName := ⟨RX8, "sheet", "(III)I"⟩
abbrev cX8_cell : ByteArray := prog_1_method_3_code
def yX8_cell : MethodName := ⟨RX8, "cell", "(III)I"⟩
abbrev cX8_told : ByteArray := prog_1_method_4_code
def yX8_told : MethodName := ⟨RX8, "told", "(II)I"⟩
abbrev cX8_lose : ByteArray := prog_1_method_5_code
def yX8_lose : MethodName := ⟨RX8, "lose", "(I)I"⟩
abbrev cX8_letters : ByteArray := prog_1_method_6_code
def yX8_letters : MethodName := ⟨RX8, "letters", "(I)I"⟩
abbrev cX8_state : ByteArray := prog_1_method_7_code
def yX8_state : MethodName := ⟨RX8, "state", "(II)I"⟩
abbrev cX8_change : ByteArray := prog_1_method_8_code
def yX8_change : MethodName := ⟨RX8, "change", "(IIII)I"⟩
abbrev cX8_of : ByteArray := prog_1_method_9_code
def yX8_of : MethodName := ⟨RX8, "of", "(III)I"⟩
abbrev cX8_many : ByteArray := prog_1_method_10_code
def yX8_many : MethodName := ⟨RX8, "many", "(I)I"⟩
abbrev cX8_put : ByteArray := prog_1_method_11_code
def yX8_put : MethodName := ⟨RX8, "put", "(IIIII)I"⟩
abbrev cX8_wipe : ByteArray := prog_1_method_12_code
def yX8_wipe : MethodName := ⟨RX8, "wipe", "(I)I"⟩
abbrev cX8_size : ByteArray := prog_1_method_13_code
def yX8_size : MethodName := ⟨RX8, "size", "(I)I"⟩
abbrev cX8_token : ByteArray := prog_1_method_14_code
def yX8_token : MethodName := ⟨RX8, "token", "(II)I"⟩
abbrev cX8_times : ByteArray := prog_1_method_15_code
def yX8_times : MethodName := ⟨RX8, "times", "(III)I"⟩
abbrev cX8_turn : ByteArray := prog_1_method_16_code
def yX8_turn : MethodName := ⟨RX8, "turn", "(II)I"⟩
abbrev cX8_act : ByteArray := prog_1_method_17_code
def yX8_act : MethodName := ⟨RX8, "act", "(II)I"⟩
abbrev cX8_part : ByteArray := prog_1_method_18_code
def yX8_part : MethodName := ⟨RX8, "part", "(III)I"⟩
abbrev cX8_same : ByteArray := prog_1_method_19_code
def yX8_same : MethodName := ⟨RX8, "same", "(II)I"⟩
abbrev cX8_apart : ByteArray := prog_1_method_20_code
def yX8_apart : MethodName := ⟨RX8, "apart", "(II)I"⟩
abbrev cX8_heap : ByteArray := prog_1_method_21_code
def yX8_heap : MethodName := ⟨RX8, "heap", "(I)I"⟩
abbrev cX8_least : ByteArray := prog_1_method_22_code
def yX8_least : MethodName := ⟨RX8, "least", "(I)I"⟩
abbrev cX8_order : ByteArray := prog_1_method_23_code
def yX8_order : MethodName := ⟨RX8, "order", "(II)I"⟩
abbrev cX8_orbits : ByteArray := prog_1_method_24_code
def yX8_orbits : MethodName := ⟨RX8, "orbits", "(I)I"⟩
abbrev cX8_orbit : ByteArray := prog_1_method_25_code
def yX8_orbit : MethodName := ⟨RX8, "orbit", "(I)I"⟩
abbrev cX8_far : ByteArray := prog_1_method_26_code
def yX8_far : MethodName := ⟨RX8, "far", "(II)I"⟩
abbrev cX8_way : ByteArray := prog_1_method_27_code
def yX8_way : MethodName := ⟨RX8, "way", "(III)I"⟩
abbrev cX8_reach : ByteArray := prog_1_method_28_code
def yX8_reach : MethodName := ⟨RX8, "reach", "(I)I"⟩
abbrev cX8_group : ByteArray := prog_1_method_29_code
def yX8_group : MethodName := ⟨RX8, "group", "(I)I"⟩
abbrev cX8_growth : ByteArray := prog_1_method_30_code
def yX8_growth : MethodName := ⟨RX8, "growth", "(I)I"⟩
abbrev cX8_laws : ByteArray := prog_1_method_31_code
def yX8_laws : MethodName := ⟨RX8, "laws", "(I)I"⟩
abbrev cX8_law : ByteArray := prog_1_method_32_code
def yX8_law : MethodName := ⟨RX8, "law", "(III)I"⟩
abbrev cX8_fall : ByteArray := prog_1_method_33_code
def yX8_fall : MethodName := ⟨RX8, "fall", "(I)I"⟩
abbrev cX8_fallen : ByteArray := prog_1_method_34_code
def yX8_fallen : MethodName := ⟨RX8, "fallen", "(III)I"⟩
abbrev cX8_isSheet : ByteArray := prog_1_method_35_code
def yX8_isSheet : MethodName := ⟨RX8, "isSheet", "(I)Z"⟩
abbrev cX8_isSpot : ByteArray := prog_1_method_36_code
def yX8_isSpot : MethodName := ⟨RX8, "isSpot", "(I)Z"⟩
abbrev cX8_isGoal : ByteArray := prog_1_method_37_code
def yX8_isGoal : MethodName := ⟨RX8, "isGoal", "(I)Z"⟩
abbrev cX8_markOf : ByteArray := prog_1_method_38_code
def yX8_markOf : MethodName := ⟨RX8, "markOf", "(I)I"⟩
abbrev cX8_tokenOf : ByteArray := prog_1_method_39_code
def yX8_tokenOf : MethodName := ⟨RX8, "tokenOf", "(I)I"⟩
abbrev cX8_forgetAnswers : ByteArray := prog_1_method_40_code
def yX8_forgetAnswers : MethodName := ⟨RX8, "forgetAnswers", "()V"⟩
abbrev cX8_hasLostWayBack : ByteArray := prog_1_method_41_code
def yX8_hasLostWayBack : MethodName := ⟨RX8, "hasLostWayBack", "(LSwitchTower$Word;)Z"⟩
abbrev cX8_hasBackStates : ByteArray := prog_1_method_42_code
def yX8_hasBackStates : MethodName := ⟨RX8, "hasBackStates", "(LSwitchTower$Word;)Z"⟩
abbrev cX8_refusalOfGiven : ByteArray := prog_1_method_43_code
def yX8_refusalOfGiven : MethodName := ⟨RX8, "refusalOfGiven", "()I"⟩
abbrev cX8_bring : ByteArray := prog_1_method_44_code
def yX8_bring : MethodName := ⟨RX8, "bring", "(LSwitchTower$Word;I)I"⟩
abbrev cX8_join : ByteArray := prog_1_method_45_code
def yX8_join : MethodName := ⟨RX8, "join", "(LSwitchTower$Word;LSwitchTower$Word;I)I"⟩
abbrev cX8_walkDown : ByteArray := prog_1_method_46_code
def yX8_walkDown : MethodName := ⟨RX8, "walkDown", "(LSwitchTower$Word;II)I"⟩
abbrev cX8_gather : ByteArray := prog_1_method_47_code
def yX8_gather : MethodName := ⟨RX8, "gather", "(II)I"⟩
abbrev cX8_levelOf : ByteArray := prog_1_method_48_code
def yX8_levelOf : MethodName := ⟨RX8, "levelOf", "(I)I"⟩
abbrev cX8_walkFrom : ByteArray := prog_1_method_49_code
def yX8_walkFrom : MethodName := ⟨RX8, "walkFrom", "(II)I"⟩
def RX9 : String := "SwitchTowerModel"
def TX9 : u_T := fun k => match k with
  | 0 => ("SwitchTowerModel", "sheetKind", "[I", true)
  | 1 => ("SwitchTowerModel", "sheetSize", "[I", true)
  | 2 => ("SwitchTowerModel", "cellOf", "[I", true)
  | 3 => ("SwitchTowerModel", "letters", "I", false)
  | 4 => ("SwitchTowerModel", "states", "I", false)
  | 5 => ("SwitchTowerModel", "writes", "[I", true)
  | 6 => ("SwitchTowerModel", "goes", "[I", true)
  | 7 => ("SwitchTowerModel", "word", "[I", true)
  | 8 => ("SwitchTowerModel", "sizeOf", "[I", true)
  | 9 => ("SwitchTowerModel", "isCome", "[Z", true)
  | 10 => ("SwitchTowerModel", "tokens", "[I", true)
  | 11 => ("SwitchTowerModel", "tokenMany", "I", false)
  | 12 => ("SwitchTowerModel", "four", "[I", true)
  | 13 => ("SwitchTowerModel", "becomes", "I", false)
  | 14 => ("SwitchTowerModel", "goesOn", "I", false)
  | 15 => ("SwitchTowerModel", "row", "[I", true)
  | 16 => ("SwitchTowerModel", "rowSize", "I", false)
  | 17 => ("SwitchTowerModel", "heapWord", "[I", true)
  | 18 => ("SwitchTowerModel", "heapSize", "[I", true)
  | 19 => ("SwitchTowerModel", "heapOut", "[I", true)
  | 20 => ("SwitchTowerModel", "heapNext", "[I", true)
  | 21 => ("SwitchTowerModel", "heapMany", "I", false)
  | 22 => ("SwitchTowerModel", "heapDone", "I", false)
  | 23 => ("SwitchTowerModel", "classOf", "[I", true)
  | 24 => ("SwitchTowerModel", "newClass", "[I", true)
  | 25 => ("SwitchTowerModel", "classAt", "[I", true)
  | 26 => ("SwitchTowerModel", "first", "I", false)
  | 27 => ("SwitchTowerModel", "second", "I", false)
  | 28 => ("SwitchTowerModel", "levelSize", "I", false)
  | 29 => ("SwitchTowerModel", "madeOf", "[I", true)
  | 30 => ("SwitchTowerModel", "wordMakes", "[I", true)
  | 31 => ("SwitchTowerModel", "heapOf", "[I", true)
  | 32 => ("SwitchTowerModel", "farOf", "[I", true)
  | 33 => ("SwitchTowerModel", "placeFrom", "I", false)
  | 34 => ("SwitchTowerModel", "placeTo", "I", false)
  | 35 => ("SwitchTowerModel", "farTo", "[I", true)
  | 36 => ("SwitchTowerModel", "does", "[J", true)
  | 37 => ("SwitchTowerModel", "slotOf", "[I", true)
  | 38 => ("SwitchTowerModel", "doings", "I", false)
  | 39 => ("SwitchTowerModel", "isBackNow", "[Z", true)
  | 40 => ("SwitchTowerModel", "fallen", "[I", true)
  | _ => ("SwitchTowerModel", "fallenMany", "I", false)
def tyX9 : Nat → FieldType := fun k => match k with
  | 0 => .array .int
  | 1 => .array .int
  | 2 => .array .int
  | 3 => .int
  | 4 => .int
  | 5 => .array .int
  | 6 => .array .int
  | 7 => .array .int
  | 8 => .array .int
  | 9 => .array .boolean
  | 10 => .array .int
  | 11 => .int
  | 12 => .array .int
  | 13 => .int
  | 14 => .int
  | 15 => .array .int
  | 16 => .int
  | 17 => .array .int
  | 18 => .array .int
  | 19 => .array .int
  | 20 => .array .int
  | 21 => .int
  | 22 => .int
  | 23 => .array .int
  | 24 => .array .int
  | 25 => .array .int
  | 26 => .int
  | 27 => .int
  | 28 => .int
  | 29 => .array .int
  | 30 => .array .int
  | 31 => .array .int
  | 32 => .array .int
  | 33 => .int
  | 34 => .int
  | 35 => .array .int
  | 36 => .array .long
  | 37 => .array .int
  | 38 => .int
  | 39 => .array .boolean
  | 40 => .array .int
  | _ => .int
theorem nmX9 : ∀ a, a < 42 → ∀ b, b < 42 → a ≠ b → (TX9 a).2.1 ≠ (TX9 b).2.1 := by decide +kernel
theorem tyX9_ok : ∀ k, k < 42 → parseFieldDescriptor (TX9 k).2.2.1 = some (tyX9 k) := by decide +kernel
abbrev cX9_init : ByteArray := prog_11_method_1_code
def yX9_init : MethodName := ⟨RX9, "<init>", "()V"⟩
abbrev cX9_in : ByteArray := prog_11_method_2_code
def yX9_in : MethodName := ⟨RX9, "in", "(JJJ)Z"⟩
abbrev cX9_isSheet : ByteArray := prog_11_method_3_code
def yX9_isSheet : MethodName := ⟨RX9, "isSheet", "(I)Z"⟩
abbrev cX9_isSpot : ByteArray := prog_11_method_4_code
def yX9_isSpot : MethodName := ⟨RX9, "isSpot", "(I)Z"⟩
abbrev cX9_sheet : ByteArray := prog_11_method_5_code
def yX9_sheet : MethodName := ⟨RX9, "sheet", "(III)I"⟩
abbrev cX9_cell : ByteArray := prog_11_method_6_code
def yX9_cell : MethodName := ⟨RX9, "cell", "(III)I"⟩
abbrev cX9_told : ByteArray := prog_11_method_7_code
def yX9_told : MethodName := ⟨RX9, "told", "(II)I"⟩
abbrev cX9_lose : ByteArray := prog_11_method_8_code
def yX9_lose : MethodName := ⟨RX9, "lose", "(I)I"⟩
abbrev cX9_letters : ByteArray := prog_11_method_9_code
def yX9_letters : MethodName := ⟨RX9, "letters", "(I)I"⟩
abbrev cX9_state : ByteArray := prog_11_method_10_code
def yX9_state : MethodName := ⟨RX9, "state", "(II)I"⟩
abbrev cX9_isFair : ByteArray := prog_11_method_11_code
def yX9_isFair : MethodName := ⟨RX9, "isFair", "(I)Z"⟩
abbrev cX9_isBack : ByteArray := prog_11_method_12_code
def yX9_isBack : MethodName := ⟨RX9, "isBack", "(I)Z"⟩
abbrev cX9_change : ByteArray := prog_11_method_13_code
def yX9_change : MethodName := ⟨RX9, "change", "(IIII)I"⟩
abbrev cX9_of : ByteArray := prog_11_method_14_code
def yX9_of : MethodName := ⟨RX9, "of", "(III)I"⟩
abbrev cX9_isWhole : ByteArray := prog_11_method_15_code
def yX9_isWhole : MethodName := ⟨RX9, "isWhole", "()Z"⟩
abbrev cX9_findTokens : ByteArray := prog_11_method_16_code
def yX9_findTokens : MethodName := ⟨RX9, "findTokens", "()V"⟩
abbrev cX9_many : ByteArray := prog_11_method_17_code
def yX9_many : MethodName := ⟨RX9, "many", "(I)I"⟩
abbrev cX9_add : ByteArray := prog_11_method_18_code
def yX9_add : MethodName := ⟨RX9, "add", "(II)V"⟩
abbrev cX9_copy : ByteArray := prog_11_method_19_code
def yX9_copy : MethodName := ⟨RX9, "copy", "(II)V"⟩
abbrev cX9_put : ByteArray := prog_11_method_20_code
def yX9_put : MethodName := ⟨RX9, "put", "(IIIII)I"⟩
abbrev cX9_wipe : ByteArray := prog_11_method_21_code
def yX9_wipe : MethodName := ⟨RX9, "wipe", "(I)I"⟩
abbrev cX9_size : ByteArray := prog_11_method_22_code
def yX9_size : MethodName := ⟨RX9, "size", "(I)I"⟩
abbrev cX9_token : ByteArray := prog_11_method_23_code
def yX9_token : MethodName := ⟨RX9, "token", "(II)I"⟩
abbrev cX9_times : ByteArray := prog_11_method_24_code
def yX9_times : MethodName := ⟨RX9, "times", "(III)I"⟩
abbrev cX9_turn : ByteArray := prog_11_method_25_code
def yX9_turn : MethodName := ⟨RX9, "turn", "(II)I"⟩
abbrev cX9_step : ByteArray := prog_11_method_26_code
def yX9_step : MethodName := ⟨RX9, "step", "(II)V"⟩
abbrev cX9_partAt : ByteArray := prog_11_method_27_code
def yX9_partAt : MethodName := ⟨RX9, "partAt", "(III)I"⟩
abbrev cX9_takeRow : ByteArray := prog_11_method_28_code
def yX9_takeRow : MethodName := ⟨RX9, "takeRow", "(II)Z"⟩
abbrev cX9_rowNumber : ByteArray := prog_11_method_29_code
def yX9_rowNumber : MethodName := ⟨RX9, "rowNumber", "()I"⟩
abbrev cX9_rewrite : ByteArray := prog_11_method_30_code
def yX9_rewrite : MethodName := ⟨RX9, "rewrite", "(I)V"⟩
abbrev cX9_act : ByteArray := prog_11_method_31_code
def yX9_act : MethodName := ⟨RX9, "act", "(II)I"⟩
abbrev cX9_partAtRow : ByteArray := prog_11_method_32_code
def yX9_partAtRow : MethodName := ⟨RX9, "partAtRow", "(II)V"⟩
abbrev cX9_part : ByteArray := prog_11_method_33_code
def yX9_part : MethodName := ⟨RX9, "part", "(III)I"⟩
abbrev cX9_findInHeap : ByteArray := prog_11_method_34_code
def yX9_findInHeap : MethodName := ⟨RX9, "findInHeap", "(I)I"⟩
abbrev cX9_toHeap : ByteArray := prog_11_method_35_code
def yX9_toHeap : MethodName := ⟨RX9, "toHeap", "(I)I"⟩
abbrev cX9_fromHeap : ByteArray := prog_11_method_36_code
def yX9_fromHeap : MethodName := ⟨RX9, "fromHeap", "(II)V"⟩
abbrev cX9_grow : ByteArray := prog_11_method_37_code
def yX9_grow : MethodName := ⟨RX9, "grow", "()Z"⟩
abbrev cX9_beginHeap : ByteArray := prog_11_method_38_code
def yX9_beginHeap : MethodName := ⟨RX9, "beginHeap", "()V"⟩
abbrev cX9_isSameNow : ByteArray := prog_11_method_39_code
def yX9_isSameNow : MethodName := ⟨RX9, "isSameNow", "(II)Z"⟩
abbrev cX9_partOnce : ByteArray := prog_11_method_40_code
def yX9_partOnce : MethodName := ⟨RX9, "partOnce", "()I"⟩
abbrev cX9_partAll : ByteArray := prog_11_method_41_code
def yX9_partAll : MethodName := ⟨RX9, "partAll", "()I"⟩
abbrev cX9_takeTwo : ByteArray := prog_11_method_42_code
def yX9_takeTwo : MethodName := ⟨RX9, "takeTwo", "(II)I"⟩
abbrev cX9_same : ByteArray := prog_11_method_43_code
def yX9_same : MethodName := ⟨RX9, "same", "(II)I"⟩
abbrev cX9_apart : ByteArray := prog_11_method_44_code
def yX9_apart : MethodName := ⟨RX9, "apart", "(II)I"⟩
abbrev cX9_isParted : ByteArray := prog_11_method_45_code
def yX9_isParted : MethodName := ⟨RX9, "isParted", "(IIII)Z"⟩
abbrev cX9_heap : ByteArray := prog_11_method_46_code
def yX9_heap : MethodName := ⟨RX9, "heap", "(I)I"⟩
abbrev cX9_least : ByteArray := prog_11_method_47_code
def yX9_least : MethodName := ⟨RX9, "least", "(I)I"⟩
abbrev cX9_rowsOf : ByteArray := prog_11_method_48_code
def yX9_rowsOf : MethodName := ⟨RX9, "rowsOf", "(II)I"⟩
abbrev cX9_rowAt : ByteArray := prog_11_method_49_code
def yX9_rowAt : MethodName := ⟨RX9, "rowAt", "(II)V"⟩
abbrev cX9_placeNow : ByteArray := prog_11_method_50_code
def yX9_placeNow : MethodName := ⟨RX9, "placeNow", "()I"⟩
abbrev cX9_findLevel : ByteArray := prog_11_method_51_code
def yX9_findLevel : MethodName := ⟨RX9, "findLevel", "(I)V"⟩
abbrev cX9_isTokenBack : ByteArray := prog_11_method_52_code
def yX9_isTokenBack : MethodName := ⟨RX9, "isTokenBack", "(I)Z"⟩
abbrev cX9_common : ByteArray := prog_11_method_53_code
def yX9_common : MethodName := ⟨RX9, "common", "(JJ)J"⟩
abbrev cX9_order : ByteArray := prog_11_method_54_code
def yX9_order : MethodName := ⟨RX9, "order", "(II)I"⟩
abbrev cX9_orbits : ByteArray := prog_11_method_55_code
def yX9_orbits : MethodName := ⟨RX9, "orbits", "(I)I"⟩
abbrev cX9_takeLevel : ByteArray := prog_11_method_56_code
def yX9_takeLevel : MethodName := ⟨RX9, "takeLevel", "(I)I"⟩
abbrev cX9_findFar : ByteArray := prog_11_method_57_code
def yX9_findFar : MethodName := ⟨RX9, "findFar", "(I)V"⟩
abbrev cX9_orbit : ByteArray := prog_11_method_58_code
def yX9_orbit : MethodName := ⟨RX9, "orbit", "(I)I"⟩
abbrev cX9_takeRows : ByteArray := prog_11_method_59_code
def yX9_takeRows : MethodName := ⟨RX9, "takeRows", "(II)I"⟩
abbrev cX9_far : ByteArray := prog_11_method_60_code
def yX9_far : MethodName := ⟨RX9, "far", "(II)I"⟩
abbrev cX9_findFarTo : ByteArray := prog_11_method_61_code
def yX9_findFarTo : MethodName := ⟨RX9, "findFarTo", "(I)V"⟩
abbrev cX9_way : ByteArray := prog_11_method_62_code
def yX9_way : MethodName := ⟨RX9, "way", "(III)I"⟩
abbrev cX9_reach : ByteArray := prog_11_method_63_code
def yX9_reach : MethodName := ⟨RX9, "reach", "(I)I"⟩
abbrev cX9_toGroup : ByteArray := prog_11_method_64_code
def yX9_toGroup : MethodName := ⟨RX9, "toGroup", "(J)Z"⟩
abbrev cX9_made : ByteArray := prog_11_method_65_code
def yX9_made : MethodName := ⟨RX9, "made", "(JI)J"⟩
abbrev cX9_group : ByteArray := prog_11_method_66_code
def yX9_group : MethodName := ⟨RX9, "group", "(I)I"⟩
abbrev cX9_takeShort : ByteArray := prog_11_method_67_code
def yX9_takeShort : MethodName := ⟨RX9, "takeShort", "(I)I"⟩
abbrev cX9_growth : ByteArray := prog_11_method_68_code
def yX9_growth : MethodName := ⟨RX9, "growth", "(I)I"⟩
abbrev cX9_findLaw : ByteArray := prog_11_method_69_code
def yX9_findLaw : MethodName := ⟨RX9, "findLaw", "(I)I"⟩
abbrev cX9_laws : ByteArray := prog_11_method_70_code
def yX9_laws : MethodName := ⟨RX9, "laws", "(I)I"⟩
abbrev cX9_law : ByteArray := prog_11_method_71_code
def yX9_law : MethodName := ⟨RX9, "law", "(III)I"⟩
abbrev cX9_falls : ByteArray := prog_11_method_72_code
def yX9_falls : MethodName := ⟨RX9, "falls", "(I)Z"⟩
abbrev cX9_beginFall : ByteArray := prog_11_method_73_code
def yX9_beginFall : MethodName := ⟨RX9, "beginFall", "()Z"⟩
abbrev cX9_fallsAll : ByteArray := prog_11_method_74_code
def yX9_fallsAll : MethodName := ⟨RX9, "fallsAll", "(I)Z"⟩
abbrev cX9_fall : ByteArray := prog_11_method_75_code
def yX9_fall : MethodName := ⟨RX9, "fall", "(I)I"⟩
abbrev cX9_fallen : ByteArray := prog_11_method_76_code
def yX9_fallen : MethodName := ⟨RX9, "fallen", "(III)I"⟩
def RJ9 : String := "java/lang/Math"
abbrev cJ9_max_7cf53 : ByteArray := prog_12_method_65_code
def yJ9_max_7cf53 : MethodName := ⟨RJ9, "max", "(II)I"⟩
abbrev cJ9_max_f86c9 : ByteArray := prog_12_method_66_code
def yJ9_max_f86c9 : MethodName := ⟨RJ9, "max", "(JJ)J"⟩
abbrev cJ9_min_7cf53 : ByteArray := prog_12_method_69_code
def yJ9_min_7cf53 : MethodName := ⟨RJ9, "min", "(II)I"⟩
def RJ10 : String := "java/lang/System"
def RJ7 : String := "java/util/Arrays"
abbrev cJ7_fill_53178 : ByteArray := prog_14_method_103_code
def yJ7_fill_53178 : MethodName := ⟨RJ7, "fill", "([II)V"⟩
abbrev xcl : List vw_C := [(RX0, TX0, 5), (RX1, TX1, 4), (RX2, TX2, 8), (RX3, TX3, 10), (RX4, TX4, 13), (RX5, TX5, 4), (RX6, TX6, 10), (RX7, TX7, 2), (RX8, TX8, 9), (RX9, TX9, 42)]
end
section
/-! the program logic: cells by number, their whole numbers as two tables of functions -/
abbrev xs_F : Type := Nat ⊕ Bool
abbrev xs_L : Type := (Nat × List xs_F) ⊕ (Nat × Nat × (Nat → Nat))
abbrev xI : Type := Nat → Nat → Int32
abbrev xJ : Type := Nat → Nat → Int64
abbrev xG : Type := (Nat → Nat) × va_G × (Nat → ClassId)
abbrev xM : Type := MethodName × ByteArray × Nat × Option FieldType × Room × Nat × Nat
abbrev xQT : Type := List Frame → Array Value → State → (Nat → Prop) → State → Prop
def xN : Nat := 105
def xtab : List xs_L := [.inl (8, [.inl 1, .inl 2, .inl 3, .inl 20, .inl 21, .inl 27, .inl 35, .inl 41, .inl 56]), .inr (3, 4, fun r => 4 + 2 * r), .inr (4, 8, fun i => 12 + i), .inr (0, 4, fun _ => 0), .inl (5, [.inl 5, .inr false, .inr false, .inr false]), .inr (0, 40, fun _ => 0), .inl (5, [.inl 7, .inr false, .inr false, .inr false]), .inr (0, 40, fun _ => 0), .inl (5, [.inl 9, .inr false, .inr false, .inr false]), .inr (0, 40, fun _ => 0), .inl (5, [.inl 11, .inr false, .inr false, .inr false]), .inr (0, 40, fun _ => 0), .inl (7, [.inr true, .inr false]), .inl (7, [.inr true, .inr false]), .inl (7, [.inr true, .inr false]), .inl (7, [.inr true, .inr false]), .inl (7, [.inr true, .inr false]), .inl (7, [.inr true, .inr false]), .inl (7, [.inr true, .inr false]), .inl (7, [.inr true, .inr false]), .inl (7, [.inr true, .inr false]), .inl (3, [.inl 22, .inl 23, .inl 24, .inl 25, .inl 26, .inr false, .inr false, .inr false, .inr false, .inr false]), .inr (0, 32, fun _ => 0), .inr (0, 32, fun _ => 0), .inr (0, 64, fun _ => 0), .inr (0, 64, fun _ => 0), .inr (0, 16, fun _ => 0), .inl (2, [.inl 28, .inl 29, .inl 30, .inl 31, .inl 32, .inl 33, .inl 34, .inr false]), .inr (0, 8192, fun _ => 0), .inr (0, 9, fun _ => 0), .inr (0, 9, fun _ => 0), .inr (0, 256, fun _ => 0), .inr (0, 256, fun _ => 0), .inr (0, 256, fun _ => 0), .inr (0, 256, fun _ => 0), .inl (1, [.inl 36, .inl 40, .inr false, .inr false]), .inl (0, [.inl 37, .inl 38, .inl 39, .inr false, .inr false]), .inr (1, 3000, fun _ => 0), .inr (0, 3000, fun _ => 0), .inr (0, 4096, fun _ => 0), .inr (1, 8, fun _ => 0), .inl (4, [.inl 42, .inl 46, .inl 50, .inl 51, .inl 52, .inl 53, .inl 54, .inl 55, .inr false, .inr false, .inr false, .inr false, .inr false]), .inl (0, [.inl 43, .inl 44, .inl 45, .inr false, .inr false]), .inr (1, 200, fun _ => 0), .inr (0, 200, fun _ => 0), .inr (0, 512, fun _ => 0), .inl (0, [.inl 47, .inl 48, .inl 49, .inr false, .inr false]), .inr (1, 200, fun _ => 0), .inr (0, 200, fun _ => 0), .inr (0, 512, fun _ => 0), .inr (0, 800, fun _ => 0), .inr (0, 200, fun _ => 0), .inr (0, 200, fun _ => 0), .inr (0, 200, fun _ => 0), .inr (0, 2800, fun _ => 0), .inl (7, [.inr true, .inr false]), .inl (6, [.inl 57, .inl 72, .inl 73, .inl 74, .inl 75, .inl 76, .inr false, .inr false, .inr false, .inr false]), .inl (4, [.inl 58, .inl 62, .inl 66, .inl 67, .inl 68, .inl 69, .inl 70, .inl 71, .inr false, .inr false, .inr false, .inr false, .inr false]), .inl (0, [.inl 59, .inl 60, .inl 61, .inr false, .inr false]), .inr (1, 200, fun _ => 0), .inr (0, 200, fun _ => 0), .inr (0, 512, fun _ => 0), .inl (0, [.inl 63, .inl 64, .inl 65, .inr false, .inr false]), .inr (1, 200, fun _ => 0), .inr (0, 200, fun _ => 0), .inr (0, 512, fun _ => 0), .inr (0, 800, fun _ => 0), .inr (0, 200, fun _ => 0), .inr (0, 200, fun _ => 0), .inr (0, 200, fun _ => 0), .inr (0, 2800, fun _ => 0), .inl (7, [.inr true, .inr false]), .inl (7, [.inr true, .inr false]), .inl (7, [.inr true, .inr false]), .inr (0, 20, fun _ => 0), .inr (0, 256, fun _ => 0), .inr (0, 200, fun _ => 0), .inl (9, [.inl 78, .inl 79, .inl 80, .inr false, .inr false, .inl 81, .inl 82, .inl 83, .inl 84, .inl 85, .inl 86, .inr false, .inl 87, .inr false, .inr false, .inl 88, .inr false, .inl 89, .inl 90, .inl 91, .inl 92, .inr false, .inr false, .inl 93, .inl 94, .inl 95, .inr false, .inr false, .inr false, .inl 96, .inl 97, .inl 98, .inl 99, .inr false, .inr false, .inl 100, .inl 101, .inl 102, .inr false, .inl 103, .inl 104, .inr false]), .inr (0, 4, fun _ => 0), .inr (0, 4, fun _ => 0), .inr (0, 160, fun _ => 0), .inr (0, 32, fun _ => 0), .inr (0, 32, fun _ => 0), .inr (0, 408, fun _ => 0), .inr (0, 12, fun _ => 0), .inr (2, 8, fun _ => 0), .inr (0, 16, fun _ => 0), .inr (0, 4, fun _ => 0), .inr (0, 16, fun _ => 0), .inr (0, 3216, fun _ => 0), .inr (0, 201, fun _ => 0), .inr (0, 804, fun _ => 0), .inr (0, 804, fun _ => 0), .inr (0, 201, fun _ => 0), .inr (0, 201, fun _ => 0), .inr (0, 3015, fun _ => 0), .inr (0, 4096, fun _ => 0), .inr (0, 256, fun _ => 0), .inr (0, 256, fun _ => 0), .inr (0, 256, fun _ => 0), .inr (0, 256, fun _ => 0), .inr (1, 3001, fun _ => 0), .inr (0, 8192, fun _ => 0), .inr (2, 16, fun _ => 0), .inr (0, 20, fun _ => 0)]
def lay (k : Nat) : xs_L := xtab.getD k (.inl (0, []))

theorem lay_0 : lay 0 = .inl (8, [.inl 1, .inl 2, .inl 3, .inl 20, .inl 21, .inl 27, .inl 35, .inl 41, .inl 56]) := rfl
theorem lay_1 : lay 1 = .inr (3, 4, fun r => 4 + 2 * r) := rfl
theorem lay_2 : lay 2 = .inr (4, 8, fun i => 12 + i) := rfl
theorem lay_3 : lay 3 = .inr (0, 4, fun _ => 0) := rfl
theorem lay_4 : lay 4 = .inl (5, [.inl 5, .inr false, .inr false, .inr false]) := rfl
theorem lay_5 : lay 5 = .inr (0, 40, fun _ => 0) := rfl
theorem lay_6 : lay 6 = .inl (5, [.inl 7, .inr false, .inr false, .inr false]) := rfl
theorem lay_7 : lay 7 = .inr (0, 40, fun _ => 0) := rfl
theorem lay_8 : lay 8 = .inl (5, [.inl 9, .inr false, .inr false, .inr false]) := rfl
theorem lay_9 : lay 9 = .inr (0, 40, fun _ => 0) := rfl
theorem lay_10 : lay 10 = .inl (5, [.inl 11, .inr false, .inr false, .inr false]) := rfl
theorem lay_11 : lay 11 = .inr (0, 40, fun _ => 0) := rfl
theorem lay_12 : lay 12 = .inl (7, [.inr true, .inr false]) := rfl
theorem lay_13 : lay 13 = .inl (7, [.inr true, .inr false]) := rfl
theorem lay_14 : lay 14 = .inl (7, [.inr true, .inr false]) := rfl
theorem lay_15 : lay 15 = .inl (7, [.inr true, .inr false]) := rfl
theorem lay_16 : lay 16 = .inl (7, [.inr true, .inr false]) := rfl
theorem lay_17 : lay 17 = .inl (7, [.inr true, .inr false]) := rfl
theorem lay_18 : lay 18 = .inl (7, [.inr true, .inr false]) := rfl
theorem lay_19 : lay 19 = .inl (7, [.inr true, .inr false]) := rfl
theorem lay_20 : lay 20 = .inl (7, [.inr true, .inr false]) := rfl
theorem lay_21 : lay 21 = .inl (3, [.inl 22, .inl 23, .inl 24, .inl 25, .inl 26, .inr false, .inr false, .inr false, .inr false, .inr false]) := rfl
theorem lay_22 : lay 22 = .inr (0, 32, fun _ => 0) := rfl
theorem lay_23 : lay 23 = .inr (0, 32, fun _ => 0) := rfl
theorem lay_24 : lay 24 = .inr (0, 64, fun _ => 0) := rfl
theorem lay_25 : lay 25 = .inr (0, 64, fun _ => 0) := rfl
theorem lay_26 : lay 26 = .inr (0, 16, fun _ => 0) := rfl
theorem lay_27 : lay 27 = .inl (2, [.inl 28, .inl 29, .inl 30, .inl 31, .inl 32, .inl 33, .inl 34, .inr false]) := rfl
theorem lay_28 : lay 28 = .inr (0, 8192, fun _ => 0) := rfl
theorem lay_29 : lay 29 = .inr (0, 9, fun _ => 0) := rfl
theorem lay_30 : lay 30 = .inr (0, 9, fun _ => 0) := rfl
theorem lay_31 : lay 31 = .inr (0, 256, fun _ => 0) := rfl
theorem lay_32 : lay 32 = .inr (0, 256, fun _ => 0) := rfl
theorem lay_33 : lay 33 = .inr (0, 256, fun _ => 0) := rfl
theorem lay_34 : lay 34 = .inr (0, 256, fun _ => 0) := rfl
theorem lay_35 : lay 35 = .inl (1, [.inl 36, .inl 40, .inr false, .inr false]) := rfl
theorem lay_36 : lay 36 = .inl (0, [.inl 37, .inl 38, .inl 39, .inr false, .inr false]) := rfl
theorem lay_37 : lay 37 = .inr (1, 3000, fun _ => 0) := rfl
theorem lay_38 : lay 38 = .inr (0, 3000, fun _ => 0) := rfl
theorem lay_39 : lay 39 = .inr (0, 4096, fun _ => 0) := rfl
theorem lay_40 : lay 40 = .inr (1, 8, fun _ => 0) := rfl
theorem lay_41 : lay 41 = .inl (4, [.inl 42, .inl 46, .inl 50, .inl 51, .inl 52, .inl 53, .inl 54, .inl 55, .inr false, .inr false, .inr false, .inr false, .inr false]) := rfl
theorem lay_42 : lay 42 = .inl (0, [.inl 43, .inl 44, .inl 45, .inr false, .inr false]) := rfl
theorem lay_43 : lay 43 = .inr (1, 200, fun _ => 0) := rfl
theorem lay_44 : lay 44 = .inr (0, 200, fun _ => 0) := rfl
theorem lay_45 : lay 45 = .inr (0, 512, fun _ => 0) := rfl
theorem lay_46 : lay 46 = .inl (0, [.inl 47, .inl 48, .inl 49, .inr false, .inr false]) := rfl
theorem lay_47 : lay 47 = .inr (1, 200, fun _ => 0) := rfl
theorem lay_48 : lay 48 = .inr (0, 200, fun _ => 0) := rfl
theorem lay_49 : lay 49 = .inr (0, 512, fun _ => 0) := rfl
theorem lay_50 : lay 50 = .inr (0, 800, fun _ => 0) := rfl
theorem lay_51 : lay 51 = .inr (0, 200, fun _ => 0) := rfl
theorem lay_52 : lay 52 = .inr (0, 200, fun _ => 0) := rfl
theorem lay_53 : lay 53 = .inr (0, 200, fun _ => 0) := rfl
theorem lay_54 : lay 54 = .inr (0, 2800, fun _ => 0) := rfl
theorem lay_55 : lay 55 = .inl (7, [.inr true, .inr false]) := rfl
theorem lay_56 : lay 56 = .inl (6, [.inl 57, .inl 72, .inl 73, .inl 74, .inl 75, .inl 76, .inr false, .inr false, .inr false, .inr false]) := rfl
theorem lay_57 : lay 57 = .inl (4, [.inl 58, .inl 62, .inl 66, .inl 67, .inl 68, .inl 69, .inl 70, .inl 71, .inr false, .inr false, .inr false, .inr false, .inr false]) := rfl
theorem lay_58 : lay 58 = .inl (0, [.inl 59, .inl 60, .inl 61, .inr false, .inr false]) := rfl
theorem lay_59 : lay 59 = .inr (1, 200, fun _ => 0) := rfl
theorem lay_60 : lay 60 = .inr (0, 200, fun _ => 0) := rfl
theorem lay_61 : lay 61 = .inr (0, 512, fun _ => 0) := rfl
theorem lay_62 : lay 62 = .inl (0, [.inl 63, .inl 64, .inl 65, .inr false, .inr false]) := rfl
theorem lay_63 : lay 63 = .inr (1, 200, fun _ => 0) := rfl
theorem lay_64 : lay 64 = .inr (0, 200, fun _ => 0) := rfl
theorem lay_65 : lay 65 = .inr (0, 512, fun _ => 0) := rfl
theorem lay_66 : lay 66 = .inr (0, 800, fun _ => 0) := rfl
theorem lay_67 : lay 67 = .inr (0, 200, fun _ => 0) := rfl
theorem lay_68 : lay 68 = .inr (0, 200, fun _ => 0) := rfl
theorem lay_69 : lay 69 = .inr (0, 200, fun _ => 0) := rfl
theorem lay_70 : lay 70 = .inr (0, 2800, fun _ => 0) := rfl
theorem lay_71 : lay 71 = .inl (7, [.inr true, .inr false]) := rfl
theorem lay_72 : lay 72 = .inl (7, [.inr true, .inr false]) := rfl
theorem lay_73 : lay 73 = .inl (7, [.inr true, .inr false]) := rfl
theorem lay_74 : lay 74 = .inr (0, 20, fun _ => 0) := rfl
theorem lay_75 : lay 75 = .inr (0, 256, fun _ => 0) := rfl
theorem lay_76 : lay 76 = .inr (0, 200, fun _ => 0) := rfl
theorem lay_77 : lay 77 = .inl (9, [.inl 78, .inl 79, .inl 80, .inr false, .inr false, .inl 81, .inl 82, .inl 83, .inl 84, .inl 85, .inl 86, .inr false, .inl 87, .inr false, .inr false, .inl 88, .inr false, .inl 89, .inl 90, .inl 91, .inl 92, .inr false, .inr false, .inl 93, .inl 94, .inl 95, .inr false, .inr false, .inr false, .inl 96, .inl 97, .inl 98, .inl 99, .inr false, .inr false, .inl 100, .inl 101, .inl 102, .inr false, .inl 103, .inl 104, .inr false]) := rfl
theorem lay_78 : lay 78 = .inr (0, 4, fun _ => 0) := rfl
theorem lay_79 : lay 79 = .inr (0, 4, fun _ => 0) := rfl
theorem lay_80 : lay 80 = .inr (0, 160, fun _ => 0) := rfl
theorem lay_81 : lay 81 = .inr (0, 32, fun _ => 0) := rfl
theorem lay_82 : lay 82 = .inr (0, 32, fun _ => 0) := rfl
theorem lay_83 : lay 83 = .inr (0, 408, fun _ => 0) := rfl
theorem lay_84 : lay 84 = .inr (0, 12, fun _ => 0) := rfl
theorem lay_85 : lay 85 = .inr (2, 8, fun _ => 0) := rfl
theorem lay_86 : lay 86 = .inr (0, 16, fun _ => 0) := rfl
theorem lay_87 : lay 87 = .inr (0, 4, fun _ => 0) := rfl
theorem lay_88 : lay 88 = .inr (0, 16, fun _ => 0) := rfl
theorem lay_89 : lay 89 = .inr (0, 3216, fun _ => 0) := rfl
theorem lay_90 : lay 90 = .inr (0, 201, fun _ => 0) := rfl
theorem lay_91 : lay 91 = .inr (0, 804, fun _ => 0) := rfl
theorem lay_92 : lay 92 = .inr (0, 804, fun _ => 0) := rfl
theorem lay_93 : lay 93 = .inr (0, 201, fun _ => 0) := rfl
theorem lay_94 : lay 94 = .inr (0, 201, fun _ => 0) := rfl
theorem lay_95 : lay 95 = .inr (0, 3015, fun _ => 0) := rfl
theorem lay_96 : lay 96 = .inr (0, 4096, fun _ => 0) := rfl
theorem lay_97 : lay 97 = .inr (0, 256, fun _ => 0) := rfl
theorem lay_98 : lay 98 = .inr (0, 256, fun _ => 0) := rfl
theorem lay_99 : lay 99 = .inr (0, 256, fun _ => 0) := rfl
theorem lay_100 : lay 100 = .inr (0, 256, fun _ => 0) := rfl
theorem lay_101 : lay 101 = .inr (1, 3001, fun _ => 0) := rfl
theorem lay_102 : lay 102 = .inr (0, 8192, fun _ => 0) := rfl
theorem lay_103 : lay 103 = .inr (2, 16, fun _ => 0) := rfl
theorem lay_104 : lay 104 = .inr (0, 20, fun _ => 0) := rfl
end
section
theorem xtab_len : xtab.length = xN := by decide +kernel
theorem lay_out {k : Nat} (h : ¬ k < xN) : lay k = .inl (0, []) := by
  unfold lay
  rw [List.getD_eq_getElem?_getD, List.getElem?_eq_none (by rw [xtab_len]; omega)]
  rfl
theorem lay_lt_a {k : Nat} {a : Nat × Nat × (Nat → Nat)} (h : lay k = .inr a) : k < xN := by
  by_cases hk : k < xN
  · exact hk
  · rw [lay_out hk] at h; cases h
theorem lay_lt_o {k ci j : Nat} {fs : List xs_F} {sp : xs_F} (h : lay k = .inl (ci, fs)) (hj : fs[j]? = some sp) : k < xN := by
  by_cases hk : k < xN
  · exact hk
  · rw [lay_out hk] at h
    cases h
    simp at hj
-- what a cell holds
def xs_fs (ad : Nat → Nat) (i : Nat → Int32) (j : Nat → Int64) : Nat → List xs_F → List Value
  | _, [] => []
  | n, .inl r :: l => .ref (ad r) :: xs_fs ad i j (n + 1) l
  | n, .inr false :: l => .int (i n) :: xs_fs ad i j (n + 1) l
  | n, .inr true :: l => .long (j n) :: xs_fs ad i j (n + 1) l
def xs_v (ad : Nat → Nat) (i : Nat → Int32) (j : Nat → Int64) (n : Nat) : xs_F → Value
  | .inl r => .ref (ad r)
  | .inr false => .int (i n)
  | .inr true => .long (j n)
theorem xs_fs_at (ad : Nat → Nat) (i : Nat → Int32) (j : Nat → Int64) : ∀ (fs : List xs_F) (n k : Nat), (xs_fs ad i j n fs)[k]? = (fs[k]?).map (xs_v ad i j (n + k))
  | [], n, k => by simp [xs_fs]
  | .inl r :: l, n, 0 => rfl
  | .inr false :: l, n, 0 => rfl
  | .inr true :: l, n, 0 => rfl
  | .inl r :: l, n, k + 1 => by
    have h := xs_fs_at ad i j l (n + 1) k
    rw [show n + 1 + k = n + (k + 1) by omega] at h
    simpa [xs_fs] using h
  | .inr false :: l, n, k + 1 => by
    have h := xs_fs_at ad i j l (n + 1) k
    rw [show n + 1 + k = n + (k + 1) by omega] at h
    simpa [xs_fs] using h
  | .inr true :: l, n, k + 1 => by
    have h := xs_fs_at ad i j l (n + 1) k
    rw [show n + 1 + k = n + (k + 1) by omega] at h
    simpa [xs_fs] using h
theorem xs_fs_len (ad : Nat → Nat) (i : Nat → Int32) (j : Nat → Int64) : ∀ (fs : List xs_F) (n : Nat), (xs_fs ad i j n fs).length = fs.length
  | [], n => rfl
  | .inl r :: l, n => by simp [xs_fs, xs_fs_len ad i j l]
  | .inr false :: l, n => by simp [xs_fs, xs_fs_len ad i j l]
  | .inr true :: l, n => by simp [xs_fs, xs_fs_len ad i j l]
theorem xs_fs_setI (ad : Nat → Nat) (i : Nat → Int32) (j : Nat → Int64) {fs : List xs_F} {k : Nat} (h : fs[k]? = some (.inr false)) (x : Int32) : (xs_fs ad i j 0 fs).set k (.int x) = xs_fs ad (upd i k x) j 0 fs := by
  apply List.ext_getElem?
  intro q
  rw [xs_fs_at]
  by_cases hq : q = k
  · subst hq
    have hl : q < (xs_fs ad i j 0 fs).length := by
      rw [xs_fs_len]; exact (List.getElem?_eq_some_iff.mp h).1
    rw [List.getElem?_set_self hl, h]
    simp [xs_v, upd]
  · rw [List.getElem?_set_ne (fun e => hq e.symm), xs_fs_at]
    cases hf : fs[q]? with
    | none => rfl
    | some sp => rcases sp with r | b
                 · rfl
                 · cases b
                   · simp [xs_v, upd, hq]
                   · rfl
theorem xs_fs_setJ (ad : Nat → Nat) (i : Nat → Int32) (j : Nat → Int64) {fs : List xs_F} {k : Nat} (h : fs[k]? = some (.inr true)) (x : Int64) : (xs_fs ad i j 0 fs).set k (.long x) = xs_fs ad i (vp_updL j k x) 0 fs := by
  apply List.ext_getElem?
  intro q
  rw [xs_fs_at]
  by_cases hq : q = k
  · subst hq
    have hl : q < (xs_fs ad i j 0 fs).length := by
      rw [xs_fs_len]; exact (List.getElem?_eq_some_iff.mp h).1
    rw [List.getElem?_set_self hl, h]
    simp [xs_v, vp_updL]
  · rw [List.getElem?_set_ne (fun e => hq e.symm), xs_fs_at]
    cases hf : fs[q]? with
    | none => rfl
    | some sp => rcases sp with r | b
                 · rfl
                 · cases b
                   · rfl
                   · simp [xs_v, vp_updL, hq]
def xs_a (G : xG) (i : Nat → Int32) (j : Nat → Int64) (a : Nat × Nat × (Nat → Nat)) : va_E := match a.1 with
  | 1 => .inl (G.2.2 1, a.2.1, .inr (.inl j))
  | 3 => .inl (G.2.2 3, a.2.1, .inr (.inr (.inr (.inr (fun k => some (G.1 (a.2.2 k)))))))
  | 4 => .inl (G.2.2 4, a.2.1, .inr (.inr (.inr (.inr (fun k => some (G.1 (a.2.2 k)))))))
  | n => .inl (G.2.2 n, a.2.1, .inl i)
def xs_c (G : xG) (i : Nat → Int32) (j : Nat → Int64) (L : xs_L) : va_E := match L with
  | .inl o => .inr (o.1, xs_fs G.1 i j 0 o.2)
  | .inr a => xs_a G i j a
def xs_e (G : xG) (I : xI) (J : xJ) (k : Nat) : va_E := xs_c G (I k) (J k) (lay k)
def xws (G : xG) (I : xI) (J : xJ) : va_W := (List.range xN).map (fun k => (G.1 k, xs_e G I J k))
abbrev xtys (G : xG) : List (ClassId × FieldType) := [(G.2.2 0, .int), (G.2.2 1, .long), (G.2.2 2, .boolean), (G.2.2 3, .object "SwitchTower$Sheet"), (G.2.2 4, .object "SwitchTower$Word")]
theorem xws_at {G : xG} {I : xI} {J : xJ} {k : Nat} (h : k < xN) : (xws G I J)[k]? = some (G.1 k, xs_e G I J k) := by
  simp [xws, h]
theorem xws_inv {G : xG} {I : xI} {J : xJ} {k : Nat} {q : Nat × va_E} (h : (xws G I J)[k]? = some q) : k < xN ∧ q = (G.1 k, xs_e G I J k) := by
  have hk : k < xN := by
    have := (List.getElem?_eq_some_iff.mp h).1
    simpa [xws] using this
  exact ⟨hk, Option.some.inj (h.symm.trans (xws_at hk))⟩
theorem xws_set {G : xG} {I I' : xI} {J J' : xJ} {k : Nat} {e : va_E} (hk : k < xN) (he : xs_e G I' J' k = e) (ho : ∀ q, q ≠ k → xs_e G I' J' q = xs_e G I J q) : (xws G I J).set k (G.1 k, e) = xws G I' J' := by
  apply List.ext_getElem?
  intro q
  by_cases hq : q = k
  · subst hq
    rw [List.getElem?_set_self (by simpa [xws] using hk), xws_at hk, he]
  · rw [List.getElem?_set_ne (fun e => hq e.symm)]
    by_cases hqn : q < xN
    · rw [xws_at hqn, xws_at hqn, ho q hq]
    · rw [List.getElem?_eq_none (by simp [xws]; omega), List.getElem?_eq_none (by simp [xws]; omega)]
theorem xws_setI {G : xG} {I : xI} {J : xJ} {k : Nat} {i : Nat → Int32} {e : va_E} (hk : k < xN) (he : xs_c G i (J k) (lay k) = e) : (xws G I J).set k (G.1 k, e) = xws G (va_up I k i) J := by
  refine xws_set hk ?_ (fun q hq => ?_)
  · rw [← he]; simp [xs_e, va_up]
  · simp [xs_e, va_up, hq]
theorem xws_setJ {G : xG} {I : xI} {J : xJ} {k : Nat} {j : Nat → Int64} {e : va_E} (hk : k < xN) (he : xs_c G (I k) j (lay k) = e) : (xws G I J).set k (G.1 k, e) = xws G I (va_up J k j) := by
  refine xws_set hk ?_ (fun q hq => ?_)
  · rw [← he]; simp [xs_e, va_up]
  · simp [xs_e, va_up, hq]
def xInj (G : xG) : Prop := ∀ i j : Nat, i < xN → j < xN → G.1 i = G.1 j → i = j
theorem xD {G : xG} {I : xI} {J : xJ} {A : Nat → Prop} (hi : xInj G) (hA : ∀ k, k < xN → A (G.1 k)) : va_D A (xws G I J) := by
  refine ⟨fun i j p q hp hq e => ?_, fun k q hk => ?_⟩
  · obtain ⟨h1, rfl⟩ := xws_inv hp
    obtain ⟨h2, rfl⟩ := xws_inv hq
    exact hi i j h1 h2 e
  · obtain ⟨h1, rfl⟩ := xws_inv hk
    exact hA k h1
-- locals, by place
def xal : Nat → List (Option Value) → List (Nat × Value)
  | _, [] => []
  | n, none :: l => xal (n + 1) l
  | n, some v :: l => (n, v) :: xal (n + 1) l
theorem xal_mem : ∀ (l : List (Option Value)) (n : Nat) (q : Nat × Value), q ∈ xal n l ↔ n ≤ q.1 ∧ l[q.1 - n]? = some (some q.2)
  | [], n, q => by simp [xal]
  | none :: l, n, q => by
    rw [xal, xal_mem l (n + 1) q]
    constructor
    · rintro ⟨h1, h2⟩
      refine ⟨by omega, ?_⟩
      rw [show q.1 - n = (q.1 - (n + 1)) + 1 by omega, List.getElem?_cons_succ]
      exact h2
    · rintro ⟨h1, h2⟩
      by_cases h : q.1 = n
      · rw [h, Nat.sub_self] at h2
        simp at h2
      · rw [show q.1 - n = (q.1 - (n + 1)) + 1 by omega, List.getElem?_cons_succ] at h2
        exact ⟨by omega, h2⟩
  | some v :: l, n, q => by
    rw [xal, List.mem_cons, xal_mem l (n + 1) q]
    constructor
    · rintro (h | ⟨h1, h2⟩)
      · subst h
        simp
      · refine ⟨by omega, ?_⟩
        rw [show q.1 - n = (q.1 - (n + 1)) + 1 by omega, List.getElem?_cons_succ]
        exact h2
    · rintro ⟨h1, h2⟩
      by_cases h : q.1 = n
      · left
        rw [h, Nat.sub_self] at h2
        simp at h2
        rw [h2, ← h]
      · right
        rw [show q.1 - n = (q.1 - (n + 1)) + 1 by omega, List.getElem?_cons_succ] at h2
        exact ⟨by omega, h2⟩
abbrev xL : Type := List (Option Value)
def xkill (l : xL) (i : Nat) : xL := match l[i]? with
  | some (some (.long _)) => l.set i none
  | some (some (.double _)) => l.set i none
  | _ => l
def xpre (l : xL) (i : Nat) : xL := match i with
  | 0 => l
  | i + 1 => xkill l i
def xst1 (l : xL) (i : Nat) (v : Value) : xL := (xpre l i).set i (some v)
def xst2 (l : xL) (i : Nat) (v : Value) : xL := ((xpre l i).set i (some v)).set (i + 1) none
def xhas (ls : Array Slot) (nL : Nat) (l : xL) : Prop := lv_has ls nL (xal 0 l)
theorem xhas_at {ls : Array Slot} {nL : Nat} {l : xL} (h : xhas ls nL l) {i : Nat} {v : Value} (hi : l[i]? = some (some v)) : ls[i]? = some (.val v) := h.2.2 (i, v) ((xal_mem l 0 (i, v)).mpr ⟨Nat.zero_le _, hi⟩)
theorem xhas_of {ls : Array Slot} {nL : Nat} {l : xL} {lv : List (Nat × Value)} (h : lv_has ls nL lv) (hs : ∀ (i : Nat) (v : Value), l[i]? = some (some v) → (i, v) ∈ lv) : xhas ls nL l := by
  refine ⟨h.1, h.2.1, fun q hq => h.2.2 q ?_⟩
  obtain ⟨-, h2⟩ := (xal_mem l 0 q).mp hq
  exact hs q.1 q.2 h2
theorem xkill_at {l : xL} {i k : Nat} {v : Value} (h : (xkill l i)[k]? = some (some v)) : l[k]? = some (some v) ∧ (k = i → ¬ v.category = 2) := by
  unfold xkill at h
  by_cases hk : k = i
  · subst hk
    split at h
    · rename_i w hw
      rw [List.getElem?_set_self (List.getElem?_eq_some_iff.mp hw).1] at h
      cases h
    · rename_i w hw
      rw [List.getElem?_set_self (List.getElem?_eq_some_iff.mp hw).1] at h
      cases h
    · rename_i h1 h2
      refine ⟨h, fun _ hc => ?_⟩
      cases v with
      | long x => exact h1 x h
      | double x => exact h2 x h
      | _ => simp [Value.category] at hc
  · refine ⟨?_, fun e => absurd e hk⟩
    split at h
    · rwa [List.getElem?_set_ne (fun e => hk e.symm)] at h
    · rwa [List.getElem?_set_ne (fun e => hk e.symm)] at h
    · exact h
theorem xpre_at {l : xL} {i k : Nat} {v : Value} (h : (xpre l i)[k]? = some (some v)) : l[k]? = some (some v) ∧ (k + 1 = i → ¬ v.category = 2) := by
  cases i with
  | zero => exact ⟨h, fun e => by omega⟩
  | succ i =>
    obtain ⟨h1, h2⟩ := xkill_at (i := i) h
    exact ⟨h1, fun e => h2 (by omega)⟩
theorem xst1_in {l : xL} {i : Nat} {x : Value} (k : Nat) (v : Value) (h : (xst1 l i x)[k]? = some (some v)) : (k, v) ∈ (i, x) :: (xal 0 l).filter (fun q => !(q.1 == i) && !(q.1 + 1 == i && q.2.category == 2)) := by
  unfold xst1 at h
  by_cases hk : k = i
  · subst hk
    by_cases hl : k < (xpre l k).length
    · rw [List.getElem?_set_self hl] at h
      cases h
      exact List.mem_cons_self
    · rw [List.getElem?_eq_none (by simpa using hl)] at h
      cases h
  · rw [List.getElem?_set_ne (fun e => hk e.symm)] at h
    obtain ⟨h1, h2⟩ := xpre_at h
    refine List.mem_cons_of_mem _ (List.mem_filter.mpr ⟨(xal_mem l 0 (k, v)).mpr ⟨Nat.zero_le _, h1⟩, ?_⟩)
    simp only [Bool.and_eq_true, Bool.not_eq_true', beq_eq_false_iff_ne, ne_eq, Bool.and_eq_false_imp, beq_iff_eq]
    exact ⟨hk, fun e => h2 e⟩
theorem xst2_in {l : xL} {i : Nat} {x : Value} (k : Nat) (v : Value) (h : (xst2 l i x)[k]? = some (some v)) : (k, v) ∈ (i, x) :: (xal 0 l).filter (fun q => !(q.1 == i) && (!(q.1 == i + 1) && !(q.1 + 1 == i && q.2.category == 2))) := by
  unfold xst2 at h
  by_cases hk1 : k = i + 1
  · subst hk1
    by_cases hl : i + 1 < ((xpre l i).set i (some x)).length
    · rw [List.getElem?_set_self hl] at h
      cases h
    · rw [List.getElem?_eq_none (by simpa using hl)] at h
      cases h
  rw [List.getElem?_set_ne (fun e => hk1 e.symm)] at h
  by_cases hk : k = i
  · subst hk
    by_cases hl : k < (xpre l k).length
    · rw [List.getElem?_set_self hl] at h
      cases h
      exact List.mem_cons_self
    · rw [List.getElem?_eq_none (by simpa using hl)] at h
      cases h
  · rw [List.getElem?_set_ne (fun e => hk e.symm)] at h
    obtain ⟨h1, h2⟩ := xpre_at h
    refine List.mem_cons_of_mem _ (List.mem_filter.mpr ⟨(xal_mem l 0 (k, v)).mpr ⟨Nat.zero_le _, h1⟩, ?_⟩)
    simp only [Bool.and_eq_true, Bool.not_eq_true', beq_eq_false_iff_ne, ne_eq, Bool.and_eq_false_imp, beq_iff_eq]
    exact ⟨hk, hk1, fun e => h2 e⟩
-- the words
def xw : List Cond := lw_tbl.filter goodWord
theorem xw_sub {w : Cond} (h : w ∈ xw) : w ∈ lw_tbl := (List.mem_filter.mp h).1
theorem xw_good {w : Cond} (h : w ∈ xw) : goodWord w = true := (List.mem_filter.mp h).2
theorem xw_in {w : Cond} (h : w ∈ lw_tbl) (hg : goodWord w = true) : w ∈ xw := List.mem_filter.mpr ⟨h, hg⟩
theorem xt {w : Cond} (n : Nat) (h : tables_1[n]? = some w) (hg : goodWord w = true) : w ∈ xw := xw_in (List.mem_append_right _ (List.mem_of_getElem? h)) hg
theorem xp {w : Cond} (h : w ∈ k2_sels lw_privs) (hg : goodWord w = true) : w ∈ xw := xw_in (List.mem_append_left _ h) hg
def xnest : Cond := .methodLinkNest RX3 60 yX8_isGoal RX8
-- a method's own words
abbrev xown (F : xM) : List Cond := .code F.1 F.2.1 F.2.2.1 F.2.2.2.1 :: xw
theorem xown_good {F F' : xM} (h : Cond.code F'.1 F'.2.1 F'.2.2.1 F'.2.2.2.1 ∈ xw) : GoodIn (xown F) (xown F') := by
  intro w hw
  rcases List.mem_cons.mp hw with e | h1
  · subst e
    exact ⟨List.mem_cons_of_mem _ h, good_of_word (xw_good h)⟩
  · exact ⟨List.mem_cons_of_mem _ h1, good_of_word (xw_good h1)⟩
/-- what holds in a method's body -/
def xC (G : xG) (F : xM) (p : Program) (s : State) (m : MethodId) (args : Array Value) (meth : Method) (c : Code) (A : Nat → Prop) : Prop :=
  p.tables.exec = Jvm.exec ∧ c.code = F.2.1 ∧ c.maxLocals = F.2.2.1 ∧ s.vm.findClass F.1.cls = some m.cls ∧ (∀ w ∈ xw, w.before args s = true) ∧ va_K G.2.1 xcl (xtys G) s ∧ xInj G ∧ (∀ k, k < xN → A (G.1 k)) ∧ meth.locks = false ∧ meth.sig.returnType = F.2.2.2.1 ∧ va_Nw xnest s
def xT (G : xG) (F : xM) (Q : xQT) (pc : Nat) (lv : xL) (st : List Value) (I : xI) (J : xJ) : Prop :=
  ∀ (p : Program) (l : Launch) (e : Env) (s : State) (m : MethodId) (args : Array Value) (below : List Frame) (meth : Method) (c : Code) (A : Nat → Prop), xC G F p s m args meth c A →
  ∀ (H : Heap) (locs : List Loc) (ls : Array Slot), xhas ls F.2.2.1 lv → va_P G.2.1 xcl (xws G I J) H → va_S A s.heap H locs → W p l e F.2.2.2.2.1 s m args below meth c H locs F.2.2.2.2.2.1 F.2.2.2.2.2.2 (Q below args s A) (F0 m pc ls st)
def xA (G : xG) : Nat → Prop := fun q => ∃ k, k < xN ∧ q = G.1 k
def xQc (G : xG) (post : Option Value → xI → xJ → Prop) (A : Nat → Prop) : Array Value → State → Outcome → State → Prop := fun _ st oc t => (∃ (r : Option Value) (I : xI) (J : xJ), oc = .returned r ∧ post r I J ∧ va_P G.2.1 xcl (xws G I J) t.heap) ∧ va_F A st t
def xMQ (G : xG) (post : Option Value → xI → xJ → Prop) : xQT := fun below args s A => MQ below (xQc G post A) args s 0 0 A
def xPc (G : xG) (av : List Value) (I : xI) (J : xJ) : Array Value → State → Prop := va_Pc av (fun U => va_P G.2.1 xcl (xws G I J) U.heap ∧ va_K G.2.1 xcl (xtys G) U ∧ va_Nw xnest U ∧ xInj G)
/-- a method's contract -/
def xCon (G : xG) (F : xM) (av : List Value) (I : xI) (J : xJ) (post : Option Value → xI → xJ → Prop) : Prop :=
  ∀ l : Launch, Met l F.1 (xown F) F.2.2.2.2.1 (xPc G av I J) (xQc G post (xA G)) 0 0 (xA G)
def xEnt : List Value → xL
  | [] => []
  | v :: vs => if v.category = 2 then some v :: none :: xEnt vs else some v :: xEnt vs
theorem xEnt_in : ∀ (vs : List Value) (n i : Nat) (v : Value), (xEnt vs)[i]? = some (some v) → (n + i, v) ∈ lv_args n vs
  | [], n, i, v, h => by simp [xEnt] at h
  | w :: vs, n, i, v, h => by
    unfold xEnt at h
    unfold lv_args
    by_cases hc : w.category = 2
    · rw [if_pos hc] at h ⊢
      match i, h with
      | 0, h => simp at h; subst h; simp
      | 1, h => simp at h
      | i + 2, h =>
        have h1 := xEnt_in vs (n + 2) i v (by simpa using h)
        rw [show n + 2 + i = n + (i + 2) by omega] at h1
        exact List.mem_cons_of_mem _ h1
    · rw [if_neg hc] at h ⊢
      match i, h with
      | 0, h => simp at h; subst h; simp
      | i + 1, h =>
        have h1 := xEnt_in vs (n + 1) i v (by simpa using h)
        rw [show n + 1 + i = n + (i + 1) by omega] at h1
        exact List.mem_cons_of_mem _ h1
/-- a contract by its body -/
theorem x_enter {G : xG} {F : xM} {av : List Value} {I : xI} {J : xJ} {post : Option Value → xI → xJ → Prop} (lv : xL) (hy : plainName F.1.cls = true) (hn : (lg_sl av).length ≤ F.2.2.1) (hc : F.2.2.2.2.2 = (0, 0)) (hlv : ∀ (i : Nat) (v : Value), lv[i]? = some (some v) → (xEnt av)[i]? = some (some v)) (h : xT G F (xMQ G post) 0 lv [] I J) : xCon G F av I J post := by
  intro l
  refine Met.ofW (cc := F.2.1) (maxL := F.2.2.1) (ret := F.2.2.2.1) (ws' := xw) hy rfl ?_
  intro p e s m args below meth c s₁ B hml hv
  obtain ⟨rfl, hP, hK, hN, hi⟩ := hv
  have hts := atoms_spec (ws := xown F) B.pre
  have hl := lv_entry av (n := F.2.2.1) hn
  rw [lg_entry_eq]
  have hl2 : xhas ((lg_sl av ++ List.replicate (F.2.2.1 - (lg_sl av).length) Slot.unset).toArray) F.2.2.1 lv := xhas_of hl (fun i v hiv => by
    have := xEnt_in av 0 i v (hlv i v hiv)
    rwa [Nat.zero_add] at this)
  have hh := h p l e s m av.toArray below meth c (xA G) ⟨B.exec, B.bytes, hml, findClass_of_methodNamed B.named, fun w hw => hts w (List.mem_cons_of_mem _ hw), hK, hi, fun k hk => ⟨k, hk, rfl⟩, B.notSynchronized, B.returns, hN⟩ s.heap [] _ hl2 hP va_S.rf
  rw [show F.2.2.2.2.2.1 = 0 by rw [hc], show F.2.2.2.2.2.2 = 0 by rw [hc]] at hh
  exact hh
end
section
section XR
variable {G : xG} {F : xM} {Q : xQT} {pc : Nat} {lv : xL} {st : List Value} {I : xI} {J : xJ}
theorem xr_iadd {x y : Int32} (hd : decode F.2.1 pc = .ok (.iadd, 1)) (k : xT G F Q (pc + 1) lv (.int (x + y) :: st) I J) : xT G F Q pc lv (.int y :: .int x :: st) I J := fun p l e s m args below meth c A C H locs ls hl hP hS => lv_iadd C.1 C.2.1 hd (k p l e s m args below meth c A C H locs ls hl hP hS)
theorem xr_isub {x y : Int32} (hd : decode F.2.1 pc = .ok (.isub, 1)) (k : xT G F Q (pc + 1) lv (.int (x - y) :: st) I J) : xT G F Q pc lv (.int y :: .int x :: st) I J := fun p l e s m args below meth c A C H locs ls hl hP hS => lv_isub C.1 C.2.1 hd (k p l e s m args below meth c A C H locs ls hl hP hS)
theorem xr_imul {x y : Int32} (hd : decode F.2.1 pc = .ok (.imul, 1)) (k : xT G F Q (pc + 1) lv (.int (x * y) :: st) I J) : xT G F Q pc lv (.int y :: .int x :: st) I J := fun p l e s m args below meth c A C H locs ls hl hP hS => lv_imul C.1 C.2.1 hd (k p l e s m args below meth c A C H locs ls hl hP hS)
theorem xr_iand {x y : Int32} (hd : decode F.2.1 pc = .ok (.iand, 1)) (k : xT G F Q (pc + 1) lv (.int (x &&& y) :: st) I J) : xT G F Q pc lv (.int y :: .int x :: st) I J := fun p l e s m args below meth c A C H locs ls hl hP hS => lv_iand C.1 C.2.1 hd (k p l e s m args below meth c A C H locs ls hl hP hS)
theorem xr_ior {x y : Int32} (hd : decode F.2.1 pc = .ok (.ior, 1)) (k : xT G F Q (pc + 1) lv (.int (x ||| y) :: st) I J) : xT G F Q pc lv (.int y :: .int x :: st) I J := fun p l e s m args below meth c A C H locs ls hl hP hS => lv_ior C.1 C.2.1 hd (k p l e s m args below meth c A C H locs ls hl hP hS)
theorem xr_ixor {x y : Int32} (hd : decode F.2.1 pc = .ok (.ixor, 1)) (k : xT G F Q (pc + 1) lv (.int (x ^^^ y) :: st) I J) : xT G F Q pc lv (.int y :: .int x :: st) I J := fun p l e s m args below meth c A C H locs ls hl hP hS => lv_ixor C.1 C.2.1 hd (k p l e s m args below meth c A C H locs ls hl hP hS)
theorem xr_ishl {x y : Int32} (hd : decode F.2.1 pc = .ok (.ishl, 1)) (k : xT G F Q (pc + 1) lv (.int (x <<< (y &&& 31)) :: st) I J) : xT G F Q pc lv (.int y :: .int x :: st) I J := fun p l e s m args below meth c A C H locs ls hl hP hS => lv_ishl C.1 C.2.1 hd (k p l e s m args below meth c A C H locs ls hl hP hS)
theorem xr_ishr {x y : Int32} (hd : decode F.2.1 pc = .ok (.ishr, 1)) (k : xT G F Q (pc + 1) lv (.int (x >>> (y &&& 31)) :: st) I J) : xT G F Q pc lv (.int y :: .int x :: st) I J := fun p l e s m args below meth c A C H locs ls hl hP hS => lv_ishr C.1 C.2.1 hd (k p l e s m args below meth c A C H locs ls hl hP hS)
theorem xr_idiv {x y : Int32} (hd : decode F.2.1 pc = .ok (.idiv, 1)) (hne : ¬ y = 0) (k : xT G F Q (pc + 1) lv (.int (x / y) :: st) I J) : xT G F Q pc lv (.int y :: .int x :: st) I J := fun p l e s m args below meth c A C H locs ls hl hP hS => lv_idiv C.1 C.2.1 hd hne (k p l e s m args below meth c A C H locs ls hl hP hS)
theorem xr_irem {x y : Int32} (hd : decode F.2.1 pc = .ok (.irem, 1)) (hne : ¬ y = 0) (k : xT G F Q (pc + 1) lv (.int (x - x / y * y) :: st) I J) : xT G F Q pc lv (.int y :: .int x :: st) I J := fun p l e s m args below meth c A C H locs ls hl hP hS => lv_irem C.1 C.2.1 hd hne (k p l e s m args below meth c A C H locs ls hl hP hS)
theorem xr_ladd {x y : Int64} (hd : decode F.2.1 pc = .ok (.ladd, 1)) (k : xT G F Q (pc + 1) lv (.long (x + y) :: st) I J) : xT G F Q pc lv (.long y :: .long x :: st) I J := fun p l e s m args below meth c A C H locs ls hl hP hS => lv_ladd C.1 C.2.1 hd (k p l e s m args below meth c A C H locs ls hl hP hS)
theorem xr_lsub {x y : Int64} (hd : decode F.2.1 pc = .ok (.lsub, 1)) (k : xT G F Q (pc + 1) lv (.long (x - y) :: st) I J) : xT G F Q pc lv (.long y :: .long x :: st) I J := fun p l e s m args below meth c A C H locs ls hl hP hS => lv_lsub C.1 C.2.1 hd (k p l e s m args below meth c A C H locs ls hl hP hS)
theorem xr_lmul {x y : Int64} (hd : decode F.2.1 pc = .ok (.lmul, 1)) (k : xT G F Q (pc + 1) lv (.long (x * y) :: st) I J) : xT G F Q pc lv (.long y :: .long x :: st) I J := fun p l e s m args below meth c A C H locs ls hl hP hS => lv_lmul C.1 C.2.1 hd (k p l e s m args below meth c A C H locs ls hl hP hS)
theorem xr_land {x y : Int64} (hd : decode F.2.1 pc = .ok (.land, 1)) (k : xT G F Q (pc + 1) lv (.long (x &&& y) :: st) I J) : xT G F Q pc lv (.long y :: .long x :: st) I J := fun p l e s m args below meth c A C H locs ls hl hP hS => lv_land C.1 C.2.1 hd (k p l e s m args below meth c A C H locs ls hl hP hS)
theorem xr_lor {x y : Int64} (hd : decode F.2.1 pc = .ok (.lor, 1)) (k : xT G F Q (pc + 1) lv (.long (x ||| y) :: st) I J) : xT G F Q pc lv (.long y :: .long x :: st) I J := fun p l e s m args below meth c A C H locs ls hl hP hS => lv_lor C.1 C.2.1 hd (k p l e s m args below meth c A C H locs ls hl hP hS)
theorem xr_ldiv {x y : Int64} (hd : decode F.2.1 pc = .ok (.ldiv, 1)) (hne : ¬ y = 0) (k : xT G F Q (pc + 1) lv (.long (x / y) :: st) I J) : xT G F Q pc lv (.long y :: .long x :: st) I J := fun p l e s m args below meth c A C H locs ls hl hP hS => lv_ldiv C.1 C.2.1 hd hne (k p l e s m args below meth c A C H locs ls hl hP hS)
theorem xr_lrem {x y : Int64} (hd : decode F.2.1 pc = .ok (.lrem, 1)) (hne : ¬ y = 0) (k : xT G F Q (pc + 1) lv (.long (x - x / y * y) :: st) I J) : xT G F Q pc lv (.long y :: .long x :: st) I J := fun p l e s m args below meth c A C H locs ls hl hP hS => lv_lrem C.1 C.2.1 hd hne (k p l e s m args below meth c A C H locs ls hl hP hS)
theorem xr_ineg {x : Int32} (hd : decode F.2.1 pc = .ok (.ineg, 1)) (k : xT G F Q (pc + 1) lv (.int (-x) :: st) I J) : xT G F Q pc lv (.int x :: st) I J := fun p l e s m args below meth c A C H locs ls hl hP hS => lv_ineg C.1 C.2.1 hd (k p l e s m args below meth c A C H locs ls hl hP hS)
theorem xr_i2l {x : Int32} (hd : decode F.2.1 pc = .ok (.i2l, 1)) (k : xT G F Q (pc + 1) lv (.long x.toInt64 :: st) I J) : xT G F Q pc lv (.int x :: st) I J := fun p l e s m args below meth c A C H locs ls hl hP hS => lv_i2l C.1 C.2.1 hd rfl (k p l e s m args below meth c A C H locs ls hl hP hS)
theorem xr_l2i {x : Int64} (hd : decode F.2.1 pc = .ok (.l2i, 1)) (k : xT G F Q (pc + 1) lv (.int x.toInt32 :: st) I J) : xT G F Q pc lv (.long x :: st) I J := fun p l e s m args below meth c A C H locs ls hl hP hS => lv_l2i C.1 C.2.1 hd rfl (k p l e s m args below meth c A C H locs ls hl hP hS)
theorem xr_i2b {x : Int32} (hd : decode F.2.1 pc = .ok (.i2b, 1)) (k : xT G F Q (pc + 1) lv (.int x.toInt8.toInt32 :: st) I J) : xT G F Q pc lv (.int x :: st) I J := fun p l e s m args below meth c A C H locs ls hl hP hS => lv_i2b C.1 C.2.1 hd rfl (k p l e s m args below meth c A C H locs ls hl hP hS)
theorem xr_i2s {x : Int32} (hd : decode F.2.1 pc = .ok (.i2s, 1)) (k : xT G F Q (pc + 1) lv (.int x.toInt16.toInt32 :: st) I J) : xT G F Q pc lv (.int x :: st) I J := fun p l e s m args below meth c A C H locs ls hl hP hS => lv_i2s C.1 C.2.1 hd rfl (k p l e s m args below meth c A C H locs ls hl hP hS)
theorem xr_iushr {x y : Int32} (hd : decode F.2.1 pc = .ok (.iushr, 1)) (k : xT G F Q (pc + 1) lv (.int (x.toUInt32 >>> (y.toUInt32 &&& Int32.toUInt32 31)).toInt32 :: st) I J) : xT G F Q pc lv (.int y :: .int x :: st) I J := fun p l e s m args below meth c A C H locs ls hl hP hS => lv_iushr C.1 C.2.1 hd rfl (k p l e s m args below meth c A C H locs ls hl hP hS)
theorem xr_lushr {x : Int64} {y : Int32} (hd : decode F.2.1 pc = .ok (.lushr, 1)) (k : xT G F Q (pc + 1) lv (.long (x.toUInt64 >>> (y.toInt64.toUInt64 &&& Int64.toUInt64 63)).toInt64 :: st) I J) : xT G F Q pc lv (.int y :: .long x :: st) I J := fun p l e s m args below meth c A C H locs ls hl hP hS => lv_lushr C.1 C.2.1 hd rfl (k p l e s m args below meth c A C H locs ls hl hP hS)
theorem xr_lshl {x : Int64} {y : Int32} (hd : decode F.2.1 pc = .ok (.lshl, 1)) (k : xT G F Q (pc + 1) lv (.long (x <<< (y.toInt64 &&& 63)) :: st) I J) : xT G F Q pc lv (.int y :: .long x :: st) I J := fun p l e s m args below meth c A C H locs ls hl hP hS => lv_lshl C.1 C.2.1 hd rfl (k p l e s m args below meth c A C H locs ls hl hP hS)
theorem xr_lcmp {x y : Int64} (hd : decode F.2.1 pc = .ok (.lcmp, 1)) (k : xT G F Q (pc + 1) lv (.int (lg_cmp x y) :: st) I J) : xT G F Q pc lv (.long y :: .long x :: st) I J := fun p l e s m args below meth c A C H locs ls hl hP hS => W.lcmp C.1 C.2.1 hd (k p l e s m args below meth c A C H locs ls hl hP hS)
theorem xr_icm1 (hd : decode F.2.1 pc = .ok (.iconst (-1), 1)) (k : xT G F Q (pc + 1) lv (.int (-1) :: st) I J) : xT G F Q pc lv (st) I J := fun p l e s m args below meth c A C H locs ls hl hP hS => lv_iconst (v := -1) C.1 C.2.1 hd (by decide) (k p l e s m args below meth c A C H locs ls hl hP hS)
theorem xr_ic0 (hd : decode F.2.1 pc = .ok (.iconst (0), 1)) (k : xT G F Q (pc + 1) lv (.int (0) :: st) I J) : xT G F Q pc lv (st) I J := fun p l e s m args below meth c A C H locs ls hl hP hS => lv_iconst (v := 0) C.1 C.2.1 hd (by decide) (k p l e s m args below meth c A C H locs ls hl hP hS)
theorem xr_ic1 (hd : decode F.2.1 pc = .ok (.iconst (1), 1)) (k : xT G F Q (pc + 1) lv (.int (1) :: st) I J) : xT G F Q pc lv (st) I J := fun p l e s m args below meth c A C H locs ls hl hP hS => lv_iconst (v := 1) C.1 C.2.1 hd (by decide) (k p l e s m args below meth c A C H locs ls hl hP hS)
theorem xr_ic2 (hd : decode F.2.1 pc = .ok (.iconst (2), 1)) (k : xT G F Q (pc + 1) lv (.int (2) :: st) I J) : xT G F Q pc lv (st) I J := fun p l e s m args below meth c A C H locs ls hl hP hS => lv_iconst (v := 2) C.1 C.2.1 hd (by decide) (k p l e s m args below meth c A C H locs ls hl hP hS)
theorem xr_ic3 (hd : decode F.2.1 pc = .ok (.iconst (3), 1)) (k : xT G F Q (pc + 1) lv (.int (3) :: st) I J) : xT G F Q pc lv (st) I J := fun p l e s m args below meth c A C H locs ls hl hP hS => lv_iconst (v := 3) C.1 C.2.1 hd (by decide) (k p l e s m args below meth c A C H locs ls hl hP hS)
theorem xr_ic4 (hd : decode F.2.1 pc = .ok (.iconst (4), 1)) (k : xT G F Q (pc + 1) lv (.int (4) :: st) I J) : xT G F Q pc lv (st) I J := fun p l e s m args below meth c A C H locs ls hl hP hS => lv_iconst (v := 4) C.1 C.2.1 hd (by decide) (k p l e s m args below meth c A C H locs ls hl hP hS)
theorem xr_ic5 (hd : decode F.2.1 pc = .ok (.iconst (5), 1)) (k : xT G F Q (pc + 1) lv (.int (5) :: st) I J) : xT G F Q pc lv (st) I J := fun p l e s m args below meth c A C H locs ls hl hP hS => lv_iconst (v := 5) C.1 C.2.1 hd (by decide) (k p l e s m args below meth c A C H locs ls hl hP hS)
theorem xr_lc0 (hd : decode F.2.1 pc = .ok (.lconst 0, 1)) (k : xT G F Q (pc + 1) lv (.long 0 :: st) I J) : xT G F Q pc lv (st) I J := fun p l e s m args below meth c A C H locs ls hl hP hS => lv_lconst (v := 0) C.1 C.2.1 hd (by decide) (k p l e s m args below meth c A C H locs ls hl hP hS)
theorem xr_lc1 (hd : decode F.2.1 pc = .ok (.lconst 1, 1)) (k : xT G F Q (pc + 1) lv (.long 1 :: st) I J) : xT G F Q pc lv (st) I J := fun p l e s m args below meth c A C H locs ls hl hP hS => lv_lconst (v := 1) C.1 C.2.1 hd (by decide) (k p l e s m args below meth c A C H locs ls hl hP hS)
theorem xr_bip {n : Int} {v : Int32} (hv : (Int8.ofInt n).toInt32 = v) (hd : decode F.2.1 pc = .ok (.bipush n, 2)) (k : xT G F Q (pc + 2) lv (.int v :: st) I J) : xT G F Q pc lv (st) I J := fun p l e s m args below meth c A C H locs ls hl hP hS => lv_bipush C.1 C.2.1 hd hv (k p l e s m args below meth c A C H locs ls hl hP hS)
theorem xr_sip {n : Int} {v : Int32} (hv : (Int16.ofInt n).toInt32 = v) (hd : decode F.2.1 pc = .ok (.sipush n, 3)) (k : xT G F Q (pc + 3) lv (.int v :: st) I J) : xT G F Q pc lv (st) I J := fun p l e s m args below meth c A C H locs ls hl hP hS => lv_sipush C.1 C.2.1 hd hv (k p l e s m args below meth c A C H locs ls hl hP hS)
theorem xr_ldc {ix : Nat} {v : Int32} (hw : Cond.constant F.1.cls ix v ∈ xw) (hd : decode F.2.1 pc = .ok (.ldc ix, 2)) (k : xT G F Q (pc + 2) lv (.int v :: st) I J) : xT G F Q pc lv (st) I J := fun p l e s m args below meth c A C H locs ls hl hP hS => lv_ldc C.1 C.2.1 C.2.2.2.1 (C.2.2.2.2.1 _ hw) hd (k p l e s m args below meth c A C H locs ls hl hP hS)
theorem xr_ldc2 {ix : Nat} {v : Int64} (hw : Cond.constantLong F.1.cls ix v ∈ xw) (hd : decode F.2.1 pc = .ok (.ldc2_w ix, 3)) (k : xT G F Q (pc + 3) lv (.long v :: st) I J) : xT G F Q pc lv (st) I J := fun p l e s m args below meth c A C H locs ls hl hP hS => lv_ldc2 C.1 C.2.1 C.2.2.2.1 (C.2.2.2.2.1 _ hw) hd (k p l e s m args below meth c A C H locs ls hl hP hS)
theorem xr_iload {i : Nat} {x : Int32} (hd : decode F.2.1 pc = .ok (.iload i, 2)) (hv : lv[i]? = some (some (.int x))) (k : xT G F Q (pc + 2) lv (.int x :: st) I J) : xT G F Q pc lv (st) I J := fun p l e s m args below meth c A C H locs ls hl hP hS => lv_iload C.1 C.2.1 hd (xhas_at hl hv) (k p l e s m args below meth c A C H locs ls hl hP hS)
theorem xr_iload0 {x : Int32} (hd : decode F.2.1 pc = .ok (.iload_n 0, 1)) (hv : lv[0]? = some (some (.int x))) (k : xT G F Q (pc + 1) lv (.int x :: st) I J) : xT G F Q pc lv (st) I J := fun p l e s m args below meth c A C H locs ls hl hP hS => lv_iload_n C.1 C.2.1 hd rfl (xhas_at hl hv) (k p l e s m args below meth c A C H locs ls hl hP hS)
theorem xr_iload1 {x : Int32} (hd : decode F.2.1 pc = .ok (.iload_n 1, 1)) (hv : lv[1]? = some (some (.int x))) (k : xT G F Q (pc + 1) lv (.int x :: st) I J) : xT G F Q pc lv (st) I J := fun p l e s m args below meth c A C H locs ls hl hP hS => lv_iload_n C.1 C.2.1 hd rfl (xhas_at hl hv) (k p l e s m args below meth c A C H locs ls hl hP hS)
theorem xr_iload2 {x : Int32} (hd : decode F.2.1 pc = .ok (.iload_n 2, 1)) (hv : lv[2]? = some (some (.int x))) (k : xT G F Q (pc + 1) lv (.int x :: st) I J) : xT G F Q pc lv (st) I J := fun p l e s m args below meth c A C H locs ls hl hP hS => lv_iload_n C.1 C.2.1 hd rfl (xhas_at hl hv) (k p l e s m args below meth c A C H locs ls hl hP hS)
theorem xr_iload3 {x : Int32} (hd : decode F.2.1 pc = .ok (.iload_n 3, 1)) (hv : lv[3]? = some (some (.int x))) (k : xT G F Q (pc + 1) lv (.int x :: st) I J) : xT G F Q pc lv (st) I J := fun p l e s m args below meth c A C H locs ls hl hP hS => lv_iload_n C.1 C.2.1 hd rfl (xhas_at hl hv) (k p l e s m args below meth c A C H locs ls hl hP hS)
theorem xr_istore {i : Nat} {x : Int32} (hd : decode F.2.1 pc = .ok (.istore i, 2)) (hn : i < F.2.2.1) (k : xT G F Q (pc + 2) (xst1 lv i (.int x)) (st) I J) : xT G F Q pc lv (.int x :: st) I J := fun p l e s m args below meth c A C H locs ls hl hP hS => lv_istore C.1 C.2.1 hd hl hn rfl (fun ls2 h2 => k p l e s m args below meth c A C H locs ls2 (xhas_of h2 (fun q v h => xst1_in q v h)) hP hS)
theorem xr_istore0 {x : Int32} (hd : decode F.2.1 pc = .ok (.istore_n 0, 1)) (hn : 0 < F.2.2.1) (k : xT G F Q (pc + 1) (xst1 lv 0 (.int x)) (st) I J) : xT G F Q pc lv (.int x :: st) I J := fun p l e s m args below meth c A C H locs ls hl hP hS => lv_istore_n (i := 0) C.1 C.2.1 hd rfl hl hn rfl (fun ls2 h2 => k p l e s m args below meth c A C H locs ls2 (xhas_of h2 (fun q v h => xst1_in q v h)) hP hS)
theorem xr_istore1 {x : Int32} (hd : decode F.2.1 pc = .ok (.istore_n 1, 1)) (hn : 1 < F.2.2.1) (k : xT G F Q (pc + 1) (xst1 lv 1 (.int x)) (st) I J) : xT G F Q pc lv (.int x :: st) I J := fun p l e s m args below meth c A C H locs ls hl hP hS => lv_istore_n (i := 1) C.1 C.2.1 hd rfl hl hn rfl (fun ls2 h2 => k p l e s m args below meth c A C H locs ls2 (xhas_of h2 (fun q v h => xst1_in q v h)) hP hS)
theorem xr_istore2 {x : Int32} (hd : decode F.2.1 pc = .ok (.istore_n 2, 1)) (hn : 2 < F.2.2.1) (k : xT G F Q (pc + 1) (xst1 lv 2 (.int x)) (st) I J) : xT G F Q pc lv (.int x :: st) I J := fun p l e s m args below meth c A C H locs ls hl hP hS => lv_istore_n (i := 2) C.1 C.2.1 hd rfl hl hn rfl (fun ls2 h2 => k p l e s m args below meth c A C H locs ls2 (xhas_of h2 (fun q v h => xst1_in q v h)) hP hS)
theorem xr_istore3 {x : Int32} (hd : decode F.2.1 pc = .ok (.istore_n 3, 1)) (hn : 3 < F.2.2.1) (k : xT G F Q (pc + 1) (xst1 lv 3 (.int x)) (st) I J) : xT G F Q pc lv (.int x :: st) I J := fun p l e s m args below meth c A C H locs ls hl hP hS => lv_istore_n (i := 3) C.1 C.2.1 hd rfl hl hn rfl (fun ls2 h2 => k p l e s m args below meth c A C H locs ls2 (xhas_of h2 (fun q v h => xst1_in q v h)) hP hS)
theorem xr_lload {i : Nat} {x : Int64} (hd : decode F.2.1 pc = .ok (.lload i, 2)) (hv : lv[i]? = some (some (.long x))) (k : xT G F Q (pc + 2) lv (.long x :: st) I J) : xT G F Q pc lv (st) I J := fun p l e s m args below meth c A C H locs ls hl hP hS => lv_lload C.1 C.2.1 hd (xhas_at hl hv) (k p l e s m args below meth c A C H locs ls hl hP hS)
theorem xr_lload0 {x : Int64} (hd : decode F.2.1 pc = .ok (.lload_n 0, 1)) (hv : lv[0]? = some (some (.long x))) (k : xT G F Q (pc + 1) lv (.long x :: st) I J) : xT G F Q pc lv (st) I J := fun p l e s m args below meth c A C H locs ls hl hP hS => lv_lload_n C.1 C.2.1 hd rfl (xhas_at hl hv) (k p l e s m args below meth c A C H locs ls hl hP hS)
theorem xr_lload1 {x : Int64} (hd : decode F.2.1 pc = .ok (.lload_n 1, 1)) (hv : lv[1]? = some (some (.long x))) (k : xT G F Q (pc + 1) lv (.long x :: st) I J) : xT G F Q pc lv (st) I J := fun p l e s m args below meth c A C H locs ls hl hP hS => lv_lload_n C.1 C.2.1 hd rfl (xhas_at hl hv) (k p l e s m args below meth c A C H locs ls hl hP hS)
theorem xr_lload2 {x : Int64} (hd : decode F.2.1 pc = .ok (.lload_n 2, 1)) (hv : lv[2]? = some (some (.long x))) (k : xT G F Q (pc + 1) lv (.long x :: st) I J) : xT G F Q pc lv (st) I J := fun p l e s m args below meth c A C H locs ls hl hP hS => lv_lload_n C.1 C.2.1 hd rfl (xhas_at hl hv) (k p l e s m args below meth c A C H locs ls hl hP hS)
theorem xr_lload3 {x : Int64} (hd : decode F.2.1 pc = .ok (.lload_n 3, 1)) (hv : lv[3]? = some (some (.long x))) (k : xT G F Q (pc + 1) lv (.long x :: st) I J) : xT G F Q pc lv (st) I J := fun p l e s m args below meth c A C H locs ls hl hP hS => lv_lload_n C.1 C.2.1 hd rfl (xhas_at hl hv) (k p l e s m args below meth c A C H locs ls hl hP hS)
theorem xr_lstore {i : Nat} {x : Int64} (hd : decode F.2.1 pc = .ok (.lstore i, 2)) (hn : i + 1 < F.2.2.1) (k : xT G F Q (pc + 2) (xst2 lv i (.long x)) (st) I J) : xT G F Q pc lv (.long x :: st) I J := fun p l e s m args below meth c A C H locs ls hl hP hS => lv_lstore C.1 C.2.1 hd hl hn rfl (fun ls2 h2 => k p l e s m args below meth c A C H locs ls2 (xhas_of h2 (fun q v h => xst2_in q v h)) hP hS)
theorem xr_lstore0 {x : Int64} (hd : decode F.2.1 pc = .ok (.lstore_n 0, 1)) (hn : 1 < F.2.2.1) (k : xT G F Q (pc + 1) (xst2 lv 0 (.long x)) (st) I J) : xT G F Q pc lv (.long x :: st) I J := fun p l e s m args below meth c A C H locs ls hl hP hS => lv_lstore_n (i := 0) C.1 C.2.1 hd rfl hl hn rfl (fun ls2 h2 => k p l e s m args below meth c A C H locs ls2 (xhas_of h2 (fun q v h => xst2_in q v h)) hP hS)
theorem xr_lstore1 {x : Int64} (hd : decode F.2.1 pc = .ok (.lstore_n 1, 1)) (hn : 2 < F.2.2.1) (k : xT G F Q (pc + 1) (xst2 lv 1 (.long x)) (st) I J) : xT G F Q pc lv (.long x :: st) I J := fun p l e s m args below meth c A C H locs ls hl hP hS => lv_lstore_n (i := 1) C.1 C.2.1 hd rfl hl hn rfl (fun ls2 h2 => k p l e s m args below meth c A C H locs ls2 (xhas_of h2 (fun q v h => xst2_in q v h)) hP hS)
theorem xr_lstore2 {x : Int64} (hd : decode F.2.1 pc = .ok (.lstore_n 2, 1)) (hn : 3 < F.2.2.1) (k : xT G F Q (pc + 1) (xst2 lv 2 (.long x)) (st) I J) : xT G F Q pc lv (.long x :: st) I J := fun p l e s m args below meth c A C H locs ls hl hP hS => lv_lstore_n (i := 2) C.1 C.2.1 hd rfl hl hn rfl (fun ls2 h2 => k p l e s m args below meth c A C H locs ls2 (xhas_of h2 (fun q v h => xst2_in q v h)) hP hS)
theorem xr_lstore3 {x : Int64} (hd : decode F.2.1 pc = .ok (.lstore_n 3, 1)) (hn : 4 < F.2.2.1) (k : xT G F Q (pc + 1) (xst2 lv 3 (.long x)) (st) I J) : xT G F Q pc lv (.long x :: st) I J := fun p l e s m args below meth c A C H locs ls hl hP hS => lv_lstore_n (i := 3) C.1 C.2.1 hd rfl hl hn rfl (fun ls2 h2 => k p l e s m args below meth c A C H locs ls2 (xhas_of h2 (fun q v h => xst2_in q v h)) hP hS)
theorem xr_aload {i : Nat} {x : Nat} (hd : decode F.2.1 pc = .ok (.aload i, 2)) (hv : lv[i]? = some (some (.ref x))) (k : xT G F Q (pc + 2) lv (.ref x :: st) I J) : xT G F Q pc lv (st) I J := fun p l e s m args below meth c A C H locs ls hl hP hS => lv_aload C.1 C.2.1 hd (xhas_at hl hv) (k p l e s m args below meth c A C H locs ls hl hP hS)
theorem xr_aload0 {x : Nat} (hd : decode F.2.1 pc = .ok (.aload_n 0, 1)) (hv : lv[0]? = some (some (.ref x))) (k : xT G F Q (pc + 1) lv (.ref x :: st) I J) : xT G F Q pc lv (st) I J := fun p l e s m args below meth c A C H locs ls hl hP hS => lv_aload_n C.1 C.2.1 hd rfl (xhas_at hl hv) (k p l e s m args below meth c A C H locs ls hl hP hS)
theorem xr_aload1 {x : Nat} (hd : decode F.2.1 pc = .ok (.aload_n 1, 1)) (hv : lv[1]? = some (some (.ref x))) (k : xT G F Q (pc + 1) lv (.ref x :: st) I J) : xT G F Q pc lv (st) I J := fun p l e s m args below meth c A C H locs ls hl hP hS => lv_aload_n C.1 C.2.1 hd rfl (xhas_at hl hv) (k p l e s m args below meth c A C H locs ls hl hP hS)
theorem xr_aload2 {x : Nat} (hd : decode F.2.1 pc = .ok (.aload_n 2, 1)) (hv : lv[2]? = some (some (.ref x))) (k : xT G F Q (pc + 1) lv (.ref x :: st) I J) : xT G F Q pc lv (st) I J := fun p l e s m args below meth c A C H locs ls hl hP hS => lv_aload_n C.1 C.2.1 hd rfl (xhas_at hl hv) (k p l e s m args below meth c A C H locs ls hl hP hS)
theorem xr_aload3 {x : Nat} (hd : decode F.2.1 pc = .ok (.aload_n 3, 1)) (hv : lv[3]? = some (some (.ref x))) (k : xT G F Q (pc + 1) lv (.ref x :: st) I J) : xT G F Q pc lv (st) I J := fun p l e s m args below meth c A C H locs ls hl hP hS => lv_aload_n C.1 C.2.1 hd rfl (xhas_at hl hv) (k p l e s m args below meth c A C H locs ls hl hP hS)
theorem xr_astore {i : Nat} {x : Nat} (hd : decode F.2.1 pc = .ok (.astore i, 2)) (hn : i < F.2.2.1) (k : xT G F Q (pc + 2) (xst1 lv i (.ref x)) (st) I J) : xT G F Q pc lv (.ref x :: st) I J := fun p l e s m args below meth c A C H locs ls hl hP hS => lv_astore C.1 C.2.1 hd hl hn rfl (fun ls2 h2 => k p l e s m args below meth c A C H locs ls2 (xhas_of h2 (fun q v h => xst1_in q v h)) hP hS)
theorem xr_astore0 {x : Nat} (hd : decode F.2.1 pc = .ok (.astore_n 0, 1)) (hn : 0 < F.2.2.1) (k : xT G F Q (pc + 1) (xst1 lv 0 (.ref x)) (st) I J) : xT G F Q pc lv (.ref x :: st) I J := fun p l e s m args below meth c A C H locs ls hl hP hS => lv_astore_n (i := 0) C.1 C.2.1 hd rfl hl hn rfl (fun ls2 h2 => k p l e s m args below meth c A C H locs ls2 (xhas_of h2 (fun q v h => xst1_in q v h)) hP hS)
theorem xr_astore1 {x : Nat} (hd : decode F.2.1 pc = .ok (.astore_n 1, 1)) (hn : 1 < F.2.2.1) (k : xT G F Q (pc + 1) (xst1 lv 1 (.ref x)) (st) I J) : xT G F Q pc lv (.ref x :: st) I J := fun p l e s m args below meth c A C H locs ls hl hP hS => lv_astore_n (i := 1) C.1 C.2.1 hd rfl hl hn rfl (fun ls2 h2 => k p l e s m args below meth c A C H locs ls2 (xhas_of h2 (fun q v h => xst1_in q v h)) hP hS)
theorem xr_astore2 {x : Nat} (hd : decode F.2.1 pc = .ok (.astore_n 2, 1)) (hn : 2 < F.2.2.1) (k : xT G F Q (pc + 1) (xst1 lv 2 (.ref x)) (st) I J) : xT G F Q pc lv (.ref x :: st) I J := fun p l e s m args below meth c A C H locs ls hl hP hS => lv_astore_n (i := 2) C.1 C.2.1 hd rfl hl hn rfl (fun ls2 h2 => k p l e s m args below meth c A C H locs ls2 (xhas_of h2 (fun q v h => xst1_in q v h)) hP hS)
theorem xr_astore3 {x : Nat} (hd : decode F.2.1 pc = .ok (.astore_n 3, 1)) (hn : 3 < F.2.2.1) (k : xT G F Q (pc + 1) (xst1 lv 3 (.ref x)) (st) I J) : xT G F Q pc lv (.ref x :: st) I J := fun p l e s m args below meth c A C H locs ls hl hP hS => lv_astore_n (i := 3) C.1 C.2.1 hd rfl hl hn rfl (fun ls2 h2 => k p l e s m args below meth c A C H locs ls2 (xhas_of h2 (fun q v h => xst1_in q v h)) hP hS)
theorem xr_iinc {i : Nat} {n : Int} {x d : Int32} (hd : decode F.2.1 pc = .ok (.iinc i n, 3)) (hv : lv[i]? = some (some (.int x))) (he : Int32.ofInt n = d) (hn : i < F.2.2.1) (k : xT G F Q (pc + 3) (xst1 lv i (.int (x + d))) st I J) : xT G F Q pc lv st I J := by
  intro p l e s m args below meth c A C H locs ls hl hP hS
  obtain ⟨q, hq⟩ := List.getElem?_of_mem ((xal_mem lv 0 (i, .int x)).mpr ⟨Nat.zero_le _, hv⟩)
  exact lv_iinc C.1 C.2.1 hd hl hq (by rw [he]) hn rfl (fun ls2 h2 => k p l e s m args below meth c A C H locs ls2 (xhas_of h2 (fun q v h => xst1_in q v h)) hP hS)
theorem xr_dup {va : Value} (hd : decode F.2.1 pc = .ok (.dup, 1)) (hva : va.category = 1) (k : xT G F Q (pc + 1) lv (va :: va :: st) I J) : xT G F Q pc lv (va :: st) I J := fun p l e s m args below meth c A C H locs ls hl hP hS => lv_dup C.1 C.2.1 hd hva (k p l e s m args below meth c A C H locs ls hl hP hS)
theorem xr_pop {va : Value} (hd : decode F.2.1 pc = .ok (.pop, 1)) (hva : va.category = 1) (k : xT G F Q (pc + 1) lv (st) I J) : xT G F Q pc lv (va :: st) I J := fun p l e s m args below meth c A C H locs ls hl hP hS => lv_pop C.1 C.2.1 hd hva (k p l e s m args below meth c A C H locs ls hl hP hS)
theorem xr_dup_x1 {va vb : Value} (hd : decode F.2.1 pc = .ok (.dup_x1, 1)) (hva : va.category = 1) (hvb : vb.category = 1) (k : xT G F Q (pc + 1) lv (va :: vb :: va :: st) I J) : xT G F Q pc lv (va :: vb :: st) I J := fun p l e s m args below meth c A C H locs ls hl hP hS => lv_dup_x1 C.1 C.2.1 hd hva hvb (k p l e s m args below meth c A C H locs ls hl hP hS)
theorem xr_if_eq {x : Int32} {off : Int} (tgt : Nat) (hd : decode F.2.1 pc = .ok (.ifCond .eq off, 3)) (ht : (pc : Int) + off = (tgt : Int)) (kt : x = 0 → xT G F Q tgt lv (st) I J) (kf : ¬ x = 0 → xT G F Q (pc + 3) lv (st) I J) : xT G F Q pc lv (.int x :: st) I J := fun p l e s m args below meth c A C H locs ls hl hP hS => lv_if_eq C.1 C.2.1 hd ht (fun h => kt h p l e s m args below meth c A C H locs ls hl hP hS) (fun h => kf h p l e s m args below meth c A C H locs ls hl hP hS)
theorem xr_icmp_eq {x y : Int32} {off : Int} (tgt : Nat) (hd : decode F.2.1 pc = .ok (.if_icmp .eq off, 3)) (ht : (pc : Int) + off = (tgt : Int)) (kt : x = y → xT G F Q tgt lv (st) I J) (kf : ¬ x = y → xT G F Q (pc + 3) lv (st) I J) : xT G F Q pc lv (.int y :: .int x :: st) I J := fun p l e s m args below meth c A C H locs ls hl hP hS => lv_icmp_eq C.1 C.2.1 hd ht (fun h => kt h p l e s m args below meth c A C H locs ls hl hP hS) (fun h => kf h p l e s m args below meth c A C H locs ls hl hP hS)
theorem xr_if_ne {x : Int32} {off : Int} (tgt : Nat) (hd : decode F.2.1 pc = .ok (.ifCond .ne off, 3)) (ht : (pc : Int) + off = (tgt : Int)) (kt : ¬ x = 0 → xT G F Q tgt lv (st) I J) (kf : x = 0 → xT G F Q (pc + 3) lv (st) I J) : xT G F Q pc lv (.int x :: st) I J := fun p l e s m args below meth c A C H locs ls hl hP hS => lv_if_ne C.1 C.2.1 hd ht (fun h => kt h p l e s m args below meth c A C H locs ls hl hP hS) (fun h => kf h p l e s m args below meth c A C H locs ls hl hP hS)
theorem xr_icmp_ne {x y : Int32} {off : Int} (tgt : Nat) (hd : decode F.2.1 pc = .ok (.if_icmp .ne off, 3)) (ht : (pc : Int) + off = (tgt : Int)) (kt : ¬ x = y → xT G F Q tgt lv (st) I J) (kf : x = y → xT G F Q (pc + 3) lv (st) I J) : xT G F Q pc lv (.int y :: .int x :: st) I J := fun p l e s m args below meth c A C H locs ls hl hP hS => lv_icmp_ne C.1 C.2.1 hd ht (fun h => kt h p l e s m args below meth c A C H locs ls hl hP hS) (fun h => kf h p l e s m args below meth c A C H locs ls hl hP hS)
theorem xr_if_lt {x : Int32} {off : Int} (tgt : Nat) (hd : decode F.2.1 pc = .ok (.ifCond .lt off, 3)) (ht : (pc : Int) + off = (tgt : Int)) (kt : x < 0 → xT G F Q tgt lv (st) I J) (kf : ¬ x < 0 → xT G F Q (pc + 3) lv (st) I J) : xT G F Q pc lv (.int x :: st) I J := fun p l e s m args below meth c A C H locs ls hl hP hS => lv_if_lt C.1 C.2.1 hd ht (fun h => kt h p l e s m args below meth c A C H locs ls hl hP hS) (fun h => kf h p l e s m args below meth c A C H locs ls hl hP hS)
theorem xr_icmp_lt {x y : Int32} {off : Int} (tgt : Nat) (hd : decode F.2.1 pc = .ok (.if_icmp .lt off, 3)) (ht : (pc : Int) + off = (tgt : Int)) (kt : x < y → xT G F Q tgt lv (st) I J) (kf : ¬ x < y → xT G F Q (pc + 3) lv (st) I J) : xT G F Q pc lv (.int y :: .int x :: st) I J := fun p l e s m args below meth c A C H locs ls hl hP hS => lv_icmp_lt C.1 C.2.1 hd ht (fun h => kt h p l e s m args below meth c A C H locs ls hl hP hS) (fun h => kf h p l e s m args below meth c A C H locs ls hl hP hS)
theorem xr_if_ge {x : Int32} {off : Int} (tgt : Nat) (hd : decode F.2.1 pc = .ok (.ifCond .ge off, 3)) (ht : (pc : Int) + off = (tgt : Int)) (kt : 0 ≤ x → xT G F Q tgt lv (st) I J) (kf : ¬ 0 ≤ x → xT G F Q (pc + 3) lv (st) I J) : xT G F Q pc lv (.int x :: st) I J := fun p l e s m args below meth c A C H locs ls hl hP hS => lv_if_ge C.1 C.2.1 hd ht (fun h => kt h p l e s m args below meth c A C H locs ls hl hP hS) (fun h => kf h p l e s m args below meth c A C H locs ls hl hP hS)
theorem xr_icmp_ge {x y : Int32} {off : Int} (tgt : Nat) (hd : decode F.2.1 pc = .ok (.if_icmp .ge off, 3)) (ht : (pc : Int) + off = (tgt : Int)) (kt : y ≤ x → xT G F Q tgt lv (st) I J) (kf : ¬ y ≤ x → xT G F Q (pc + 3) lv (st) I J) : xT G F Q pc lv (.int y :: .int x :: st) I J := fun p l e s m args below meth c A C H locs ls hl hP hS => lv_icmp_ge C.1 C.2.1 hd ht (fun h => kt h p l e s m args below meth c A C H locs ls hl hP hS) (fun h => kf h p l e s m args below meth c A C H locs ls hl hP hS)
theorem xr_if_gt {x : Int32} {off : Int} (tgt : Nat) (hd : decode F.2.1 pc = .ok (.ifCond .gt off, 3)) (ht : (pc : Int) + off = (tgt : Int)) (kt : 0 < x → xT G F Q tgt lv (st) I J) (kf : ¬ 0 < x → xT G F Q (pc + 3) lv (st) I J) : xT G F Q pc lv (.int x :: st) I J := fun p l e s m args below meth c A C H locs ls hl hP hS => lv_if_gt C.1 C.2.1 hd ht (fun h => kt h p l e s m args below meth c A C H locs ls hl hP hS) (fun h => kf h p l e s m args below meth c A C H locs ls hl hP hS)
theorem xr_icmp_gt {x y : Int32} {off : Int} (tgt : Nat) (hd : decode F.2.1 pc = .ok (.if_icmp .gt off, 3)) (ht : (pc : Int) + off = (tgt : Int)) (kt : y < x → xT G F Q tgt lv (st) I J) (kf : ¬ y < x → xT G F Q (pc + 3) lv (st) I J) : xT G F Q pc lv (.int y :: .int x :: st) I J := fun p l e s m args below meth c A C H locs ls hl hP hS => lv_icmp_gt C.1 C.2.1 hd ht (fun h => kt h p l e s m args below meth c A C H locs ls hl hP hS) (fun h => kf h p l e s m args below meth c A C H locs ls hl hP hS)
theorem xr_if_le {x : Int32} {off : Int} (tgt : Nat) (hd : decode F.2.1 pc = .ok (.ifCond .le off, 3)) (ht : (pc : Int) + off = (tgt : Int)) (kt : x ≤ 0 → xT G F Q tgt lv (st) I J) (kf : ¬ x ≤ 0 → xT G F Q (pc + 3) lv (st) I J) : xT G F Q pc lv (.int x :: st) I J := fun p l e s m args below meth c A C H locs ls hl hP hS => lv_if_le C.1 C.2.1 hd ht (fun h => kt h p l e s m args below meth c A C H locs ls hl hP hS) (fun h => kf h p l e s m args below meth c A C H locs ls hl hP hS)
theorem xr_icmp_le {x y : Int32} {off : Int} (tgt : Nat) (hd : decode F.2.1 pc = .ok (.if_icmp .le off, 3)) (ht : (pc : Int) + off = (tgt : Int)) (kt : x ≤ y → xT G F Q tgt lv (st) I J) (kf : ¬ x ≤ y → xT G F Q (pc + 3) lv (st) I J) : xT G F Q pc lv (.int y :: .int x :: st) I J := fun p l e s m args below meth c A C H locs ls hl hP hS => lv_icmp_le C.1 C.2.1 hd ht (fun h => kt h p l e s m args below meth c A C H locs ls hl hP hS) (fun h => kf h p l e s m args below meth c A C H locs ls hl hP hS)
theorem xr_goto {off : Int} (tgt : Nat) (hd : decode F.2.1 pc = .ok (.goto off, 3)) (ht : (pc : Int) + off = (tgt : Int)) (k : xT G F Q tgt lv (st) I J) : xT G F Q pc lv (st) I J := fun p l e s m args below meth c A C H locs ls hl hP hS => lv_goto C.1 C.2.1 hd ht (k p l e s m args below meth c A C H locs ls hl hP hS)
theorem xr_tabOut {dflt lo hi : Int} {offs : Array Int} {len : Nat} {x : Int32} (tgt : Nat) (hd : decode F.2.1 pc = .ok (.tableswitch dflt lo hi offs, len)) (h : x.toInt < lo ∨ hi < x.toInt) (ht : (pc : Int) + dflt = (tgt : Int)) (k : xT G F Q tgt lv (st) I J) : xT G F Q pc lv (.int x :: st) I J := fun p l e s m args below meth c A C H locs ls hl hP hS => lv_tableOut C.1 C.2.1 hd h ht (k p l e s m args below meth c A C H locs ls hl hP hS)
theorem xr_tabIn {dflt lo hi off : Int} {offs : Array Int} {len : Nat} {x : Int32} (tgt : Nat) (hd : decode F.2.1 pc = .ok (.tableswitch dflt lo hi offs, len)) (h1 : ¬ x.toInt < lo) (h2 : ¬ hi < x.toInt) (ho : offs[(x.toInt - lo).toNat]? = some off) (ht : (pc : Int) + off = (tgt : Int)) (k : xT G F Q tgt lv (st) I J) : xT G F Q pc lv (.int x :: st) I J := fun p l e s m args below meth c A C H locs ls hl hP hS => lv_tableIn C.1 C.2.1 hd h1 h2 ho ht (k p l e s m args below meth c A C H locs ls hl hP hS)
theorem xr_look {dflt off : Int} {ps : Array (Int × Int)} {len : Nat} {x : Int32} (tgt : Nat) (hd : decode F.2.1 pc = .ok (.lookupswitch dflt ps, len)) (hp : (ps.toList.zip (ps.toList.drop 1)).all (fun (a, next) => a.1 < next.1) = true) (ho : Op.lookupswitch.offset ps.toList dflt x.toInt = off) (ht : (pc : Int) + off = (tgt : Int)) (k : xT G F Q tgt lv (st) I J) : xT G F Q pc lv (.int x :: st) I J := fun p l e s m args below meth c A C H locs ls hl hP hS => lv_lookup C.1 C.2.1 hd hp ho ht (k p l e s m args below meth c A C H locs ls hl hP hS)
end XR
end
section
set_option maxRecDepth 100000 in
theorem xcin_0 : ∀ w ∈ u_ws RX0 TX0 5, w ∈ xw := by decide +kernel
set_option maxRecDepth 100000 in
theorem xcin_1 : ∀ w ∈ u_ws RX1 TX1 4, w ∈ xw := by decide +kernel
set_option maxRecDepth 100000 in
theorem xcin_2 : ∀ w ∈ u_ws RX2 TX2 8, w ∈ xw := by decide +kernel
set_option maxRecDepth 100000 in
theorem xcin_3 : ∀ w ∈ u_ws RX3 TX3 10, w ∈ xw := by decide +kernel
set_option maxRecDepth 100000 in
theorem xcin_4 : ∀ w ∈ u_ws RX4 TX4 13, w ∈ xw := by decide +kernel
set_option maxRecDepth 100000 in
theorem xcin_5 : ∀ w ∈ u_ws RX5 TX5 4, w ∈ xw := by decide +kernel
set_option maxRecDepth 100000 in
theorem xcin_6 : ∀ w ∈ u_ws RX6 TX6 10, w ∈ xw := by decide +kernel
set_option maxRecDepth 100000 in
theorem xcin_7 : ∀ w ∈ u_ws RX7 TX7 2, w ∈ xw := by decide +kernel
set_option maxRecDepth 100000 in
theorem xcin_8 : ∀ w ∈ u_ws RX8 TX8 9, w ∈ xw := by decide +kernel
set_option maxRecDepth 100000 in
theorem xcin_9 : ∀ w ∈ u_ws RX9 TX9 42, w ∈ xw := by decide +kernel
def xK (q : vw_C) : Prop := (∀ w ∈ u_ws q.1 q.2.1 q.2.2, w ∈ xw) ∧ ∃ ty0 : Nat → FieldType, (∀ k, k < q.2.2 → parseFieldDescriptor (q.2.1 k).2.2.1 = some (ty0 k)) ∧ ∀ a, a < q.2.2 → ∀ b, b < q.2.2 → a ≠ b → (q.2.1 a).2.1 ≠ (q.2.1 b).2.1
theorem xcls : ∀ (ci : Nat) (q : vw_C), xcl[ci]? = some q → xK q
  | 0, q, h => by cases h; exact ⟨xcin_0, tyX0, tyX0_ok, nmX0⟩
  | 1, q, h => by cases h; exact ⟨xcin_1, tyX1, tyX1_ok, nmX1⟩
  | 2, q, h => by cases h; exact ⟨xcin_2, tyX2, tyX2_ok, nmX2⟩
  | 3, q, h => by cases h; exact ⟨xcin_3, tyX3, tyX3_ok, nmX3⟩
  | 4, q, h => by cases h; exact ⟨xcin_4, tyX4, tyX4_ok, nmX4⟩
  | 5, q, h => by cases h; exact ⟨xcin_5, tyX5, tyX5_ok, nmX5⟩
  | 6, q, h => by cases h; exact ⟨xcin_6, tyX6, tyX6_ok, nmX6⟩
  | 7, q, h => by cases h; exact ⟨xcin_7, tyX7, tyX7_ok, nmX7⟩
  | 8, q, h => by cases h; exact ⟨xcin_8, tyX8, tyX8_ok, nmX8⟩
  | 9, q, h => by cases h; exact ⟨xcin_9, tyX9, tyX9_ok, nmX9⟩
  | n + 10, q, h => by simp [xcl] at h
def xlk (own : String) (ix ci j : Nat) : Prop := ∃ q : vw_C, xcl[ci]? = some q ∧ j < q.2.2 ∧ Cond.fieldLink own ix (q.2.1 j).1 (q.2.1 j).2.1 (q.2.1 j).2.2.1 ∈ xw
def xlp (own : String) (ix ci j : Nat) (ty : FieldType) : Prop := ∃ q : vw_C, xcl[ci]? = some q ∧ j < q.2.2 ∧ Cond.fieldLink own ix (q.2.1 j).1 (q.2.1 j).2.1 (q.2.1 j).2.2.1 ∈ xw ∧ (q.2.1 j).2.2.2 = false ∧ parseFieldDescriptor (q.2.1 j).2.2.1 = some ty
theorem xws_o {G : xG} {I : xI} {J : xJ} {k ci j : Nat} {fs : List xs_F} {sp : xs_F} (hl : lay k = .inl (ci, fs)) (hj : fs[j]? = some sp) : (xws G I J)[k]? = some (G.1 k, .inr (ci, xs_fs G.1 (I k) (J k) 0 fs)) := by
  rw [xws_at (lay_lt_o hl hj)]
  simp only [xs_e, xs_c, hl]
theorem xws_a {G : xG} {I : xI} {J : xJ} {k : Nat} {a : Nat × Nat × (Nat → Nat)} (hl : lay k = .inr a) : (xws G I J)[k]? = some (G.1 k, xs_a G (I k) (J k) a) := by
  rw [xws_at (lay_lt_a hl)]
  simp only [xs_e, xs_c, hl]
section XM
variable {G : xG} {F : xM} {Q : xQT} {pc : Nat} {lv : xL} {st : List Value} {I : xI} {J : xJ}
theorem xr_getI {k ci ix j : Nat} {fs : List xs_F} (hd : decode F.2.1 pc = .ok (.getfield ix, 3)) (hw : xlk F.1.cls ix ci j) (hl : lay k = .inl (ci, fs)) (hj : fs[j]? = some (.inr false)) (kk : xT G F Q (pc + 3) lv (.int (I k j) :: st) I J) : xT G F Q pc lv (.ref (G.1 k) :: st) I J := by
  intro p l e s m args below meth c A C H locs ls hl2 hP hS
  obtain ⟨q, hc, hjn, hlink⟩ := hw
  refine va_get (D := G.2.1) (ci := ci) (v := .int (I k j)) (C := q.1) (T := q.2.1) (N := q.2.2) C.1 C.2.1 C.2.2.2.2.1 (xcls ci q hc).1 C.2.2.2.1 C.2.2.2.2.2.1 hP k (xws_o hl hj) hc j hjn (C.2.2.2.2.1 _ hlink) (fun _ h => h) ?_ hd (kk p l e s m args below meth c A C H locs ls hl2 hP hS)
  rw [xs_fs_at, hj]
  simp [xs_v]
theorem xr_getJ {k ci ix j : Nat} {fs : List xs_F} (hd : decode F.2.1 pc = .ok (.getfield ix, 3)) (hw : xlk F.1.cls ix ci j) (hl : lay k = .inl (ci, fs)) (hj : fs[j]? = some (.inr true)) (kk : xT G F Q (pc + 3) lv (.long (J k j) :: st) I J) : xT G F Q pc lv (.ref (G.1 k) :: st) I J := by
  intro p l e s m args below meth c A C H locs ls hl2 hP hS
  obtain ⟨q, hc, hjn, hlink⟩ := hw
  refine va_get (D := G.2.1) (ci := ci) (v := .long (J k j)) (C := q.1) (T := q.2.1) (N := q.2.2) C.1 C.2.1 C.2.2.2.2.1 (xcls ci q hc).1 C.2.2.2.1 C.2.2.2.2.2.1 hP k (xws_o hl hj) hc j hjn (C.2.2.2.2.1 _ hlink) (fun _ h => h) ?_ hd (kk p l e s m args below meth c A C H locs ls hl2 hP hS)
  rw [xs_fs_at, hj]
  simp [xs_v]
theorem xr_getR {k ci ix j r : Nat} {fs : List xs_F} (hd : decode F.2.1 pc = .ok (.getfield ix, 3)) (hw : xlk F.1.cls ix ci j) (hl : lay k = .inl (ci, fs)) (hj : fs[j]? = some (.inl r)) (kk : xT G F Q (pc + 3) lv (.ref (G.1 r) :: st) I J) : xT G F Q pc lv (.ref (G.1 k) :: st) I J := by
  intro p l e s m args below meth c A C H locs ls hl2 hP hS
  obtain ⟨q, hc, hjn, hlink⟩ := hw
  refine va_get (D := G.2.1) (ci := ci) (v := .ref (G.1 r)) (C := q.1) (T := q.2.1) (N := q.2.2) C.1 C.2.1 C.2.2.2.2.1 (xcls ci q hc).1 C.2.2.2.1 C.2.2.2.2.2.1 hP k (xws_o hl hj) hc j hjn (C.2.2.2.2.1 _ hlink) (fun _ h => h) ?_ hd (kk p l e s m args below meth c A C H locs ls hl2 hP hS)
  rw [xs_fs_at, hj]
  simp [xs_v]
theorem xr_putI {k ci ix j : Nat} {fs : List xs_F} {x : Int32} (hd : decode F.2.1 pc = .ok (.putfield ix, 3)) (hw : xlp F.1.cls ix ci j .int) (hl : lay k = .inl (ci, fs)) (hj : fs[j]? = some (.inr false)) (kk : xT G F Q (pc + 3) lv st (va_up I k (upd (I k) j x)) J) : xT G F Q pc lv (.int x :: .ref (G.1 k) :: st) I J := by
  intro p l e s m args below meth c A C H locs ls hl2 hP hS
  obtain ⟨q, hc, hjn, hlink, hfin, hpd⟩ := hw
  obtain ⟨hin, ty0, hty, hnm⟩ := xcls ci q hc
  have hD : va_D A (xws G I J) := xD C.2.2.2.2.2.2.1 C.2.2.2.2.2.2.2.1
  have hjl : j < (xs_fs G.1 (I k) (J k) 0 fs).length := by
    rw [xs_fs_len]; exact (List.getElem?_eq_some_iff.mp hj).1
  refine va_put (D := G.2.1) (ci := ci) (v := .int x) (ty := .int) (C := q.1) (T := q.2.1) (N := q.2.2) C.1 C.2.1 C.2.2.2.2.1 hin ty0 hty hnm C.2.2.2.1 C.2.2.2.2.2.1 hP hD hS k (xws_o hl hj) hc j hjn (C.2.2.2.2.1 _ hlink) (fun _ h => h) hfin hpd rfl rfl hjl hd (fun H1 locs1 hP1 hD1 hS1 => kk p l e s m args below meth c A C H1 locs1 ls hl2 ?_ hS1)
  rw [xs_fs_setI G.1 (I k) (J k) hj x, xws_setI (i := upd (I k) j x) (lay_lt_o hl hj) (by simp only [xs_c, hl])] at hP1
  exact hP1
theorem xr_putZ {k ci ix j : Nat} {fs : List xs_F} {x : Int32} (hd : decode F.2.1 pc = .ok (.putfield ix, 3)) (hw : xlp F.1.cls ix ci j .boolean) (hl : lay k = .inl (ci, fs)) (hj : fs[j]? = some (.inr false)) (hx : x = 0 ∨ x = 1) (kk : xT G F Q (pc + 3) lv st (va_up I k (upd (I k) j x)) J) : xT G F Q pc lv (.int x :: .ref (G.1 k) :: st) I J := by
  intro p l e s m args below meth c A C H locs ls hl2 hP hS
  obtain ⟨q, hc, hjn, hlink, hfin, hpd⟩ := hw
  obtain ⟨hin, ty0, hty, hnm⟩ := xcls ci q hc
  have hD : va_D A (xws G I J) := xD C.2.2.2.2.2.2.1 C.2.2.2.2.2.2.2.1
  have hjl : j < (xs_fs G.1 (I k) (J k) 0 fs).length := by
    rw [xs_fs_len]; exact (List.getElem?_eq_some_iff.mp hj).1
  refine va_put (D := G.2.1) (ci := ci) (v := .int x) (ty := .boolean) (C := q.1) (T := q.2.1) (N := q.2.2) C.1 C.2.1 C.2.2.2.2.1 hin ty0 hty hnm C.2.2.2.1 C.2.2.2.2.2.1 hP hD hS k (xws_o hl hj) hc j hjn (C.2.2.2.2.1 _ hlink) (fun _ h => h) hfin hpd (by rcases hx with h | h <;> subst h <;> decide) (by rcases hx with h | h <;> subst h <;> decide) hjl hd (fun H1 locs1 hP1 hD1 hS1 => kk p l e s m args below meth c A C H1 locs1 ls hl2 ?_ hS1)
  rw [xs_fs_setI G.1 (I k) (J k) hj x, xws_setI (i := upd (I k) j x) (lay_lt_o hl hj) (by simp only [xs_c, hl])] at hP1
  exact hP1
theorem xr_putJ {k ci ix j : Nat} {fs : List xs_F} {x : Int64} (hd : decode F.2.1 pc = .ok (.putfield ix, 3)) (hw : xlp F.1.cls ix ci j .long) (hl : lay k = .inl (ci, fs)) (hj : fs[j]? = some (.inr true)) (kk : xT G F Q (pc + 3) lv st I (va_up J k (vp_updL (J k) j x))) : xT G F Q pc lv (.long x :: .ref (G.1 k) :: st) I J := by
  intro p l e s m args below meth c A C H locs ls hl2 hP hS
  obtain ⟨q, hc, hjn, hlink, hfin, hpd⟩ := hw
  obtain ⟨hin, ty0, hty, hnm⟩ := xcls ci q hc
  have hD : va_D A (xws G I J) := xD C.2.2.2.2.2.2.1 C.2.2.2.2.2.2.2.1
  have hjl : j < (xs_fs G.1 (I k) (J k) 0 fs).length := by
    rw [xs_fs_len]; exact (List.getElem?_eq_some_iff.mp hj).1
  refine va_put (D := G.2.1) (ci := ci) (v := .long x) (ty := .long) (C := q.1) (T := q.2.1) (N := q.2.2) C.1 C.2.1 C.2.2.2.2.1 hin ty0 hty hnm C.2.2.2.1 C.2.2.2.2.2.1 hP hD hS k (xws_o hl hj) hc j hjn (C.2.2.2.2.1 _ hlink) (fun _ h => h) hfin hpd rfl rfl hjl hd (fun H1 locs1 hP1 hD1 hS1 => kk p l e s m args below meth c A C H1 locs1 ls hl2 ?_ hS1)
  rw [xs_fs_setJ G.1 (I k) (J k) hj x, xws_setJ (j := vp_updL (J k) j x) (lay_lt_o hl hj) (by simp only [xs_c, hl])] at hP1
  exact hP1
theorem xr_iald {k n : Nat} {rf : Nat → Nat} {i : Int32} (j : Nat) (hd : decode F.2.1 pc = .ok (.iaload, 1)) (hl : lay k = .inr (0, n, rf)) (hi : i = nI j) (hj : j < n) (hn : n < 2 ^ 31) (kk : xT G F Q (pc + 1) lv (.int (I k j) :: st) I J) : xT G F Q pc lv (.int i :: .ref (G.1 k) :: st) I J := by
  intro p l e s m args below meth c A C H locs ls hl2 hP hS
  subst hi
  refine va_iald (D := G.2.1) C.1 C.2.1 C.2.2.2.2.2.1 hP k 0 (xws_a hl) rfl (vp_in_nI hj hn) hd ?_
  rw [nI_clamp (by omega)]
  exact kk p l e s m args below meth c A C H locs ls hl2 hP hS
theorem xr_zald {k n : Nat} {rf : Nat → Nat} {i : Int32} (j : Nat) (hd : decode F.2.1 pc = .ok (.baload, 1)) (hl : lay k = .inr (2, n, rf)) (hi : i = nI j) (hj : j < n) (hn : n < 2 ^ 31) (kk : xT G F Q (pc + 1) lv (.int (I k j) :: st) I J) : xT G F Q pc lv (.int i :: .ref (G.1 k) :: st) I J := by
  intro p l e s m args below meth c A C H locs ls hl2 hP hS
  subst hi
  refine va_zald (D := G.2.1) C.1 C.2.1 C.2.2.2.2.2.1 hP k 2 (xws_a hl) rfl (vp_in_nI hj hn) hd ?_
  rw [nI_clamp (by omega)]
  exact kk p l e s m args below meth c A C H locs ls hl2 hP hS
theorem xr_lald {k n : Nat} {rf : Nat → Nat} {i : Int32} (j : Nat) (hd : decode F.2.1 pc = .ok (.laload, 1)) (hl : lay k = .inr (1, n, rf)) (hi : i = nI j) (hj : j < n) (hn : n < 2 ^ 31) (kk : xT G F Q (pc + 1) lv (.long (J k j) :: st) I J) : xT G F Q pc lv (.int i :: .ref (G.1 k) :: st) I J := by
  intro p l e s m args below meth c A C H locs ls hl2 hP hS
  subst hi
  refine va_lald (D := G.2.1) C.1 C.2.1 C.2.2.2.2.2.1 hP k 1 (xws_a hl) rfl (vp_in_nI hj hn) hd ?_
  rw [nI_clamp (by omega)]
  exact kk p l e s m args below meth c A C H locs ls hl2 hP hS
theorem xr_aald3 {k n : Nat} {rf : Nat → Nat} {i : Int32} (j : Nat) (hd : decode F.2.1 pc = .ok (.aaload, 1)) (hl : lay k = .inr (3, n, rf)) (hi : i = nI j) (hj : j < n) (hn : n < 2 ^ 31) (kk : xT G F Q (pc + 1) lv (.ref (G.1 (rf j)) :: st) I J) : xT G F Q pc lv (.int i :: .ref (G.1 k) :: st) I J := by
  intro p l e s m args below meth c A C H locs ls hl2 hP hS
  subst hi
  refine va_aldq (D := G.2.1) C.1 C.2.1 C.2.2.2.2.2.1 hP k 3 (xws_a hl) rfl (vp_in_nI hj hn) hd ?_
  rw [nI_clamp (by omega)]
  exact kk p l e s m args below meth c A C H locs ls hl2 hP hS
theorem xr_aald4 {k n : Nat} {rf : Nat → Nat} {i : Int32} (j : Nat) (hd : decode F.2.1 pc = .ok (.aaload, 1)) (hl : lay k = .inr (4, n, rf)) (hi : i = nI j) (hj : j < n) (hn : n < 2 ^ 31) (kk : xT G F Q (pc + 1) lv (.ref (G.1 (rf j)) :: st) I J) : xT G F Q pc lv (.int i :: .ref (G.1 k) :: st) I J := by
  intro p l e s m args below meth c A C H locs ls hl2 hP hS
  subst hi
  refine va_aldq (D := G.2.1) C.1 C.2.1 C.2.2.2.2.2.1 hP k 4 (xws_a hl) rfl (vp_in_nI hj hn) hd ?_
  rw [nI_clamp (by omega)]
  exact kk p l e s m args below meth c A C H locs ls hl2 hP hS
theorem xr_alen0 {k n : Nat} {rf : Nat → Nat} (hd : decode F.2.1 pc = .ok (.arraylength, 1)) (hl : lay k = .inr (0, n, rf)) (kk : xT G F Q (pc + 1) lv (.int (nI n) :: st) I J) : xT G F Q pc lv (.ref (G.1 k) :: st) I J := by
  intro p l e s m args below meth c A C H locs ls hl2 hP hS
  exact va_alen (D := G.2.1) (x := (n, .inl (I k))) C.1 C.2.1 C.2.2.2.2.2.1 hP k 0 (xws_a hl) rfl rfl hd (kk p l e s m args below meth c A C H locs ls hl2 hP hS)
theorem xr_alen1 {k n : Nat} {rf : Nat → Nat} (hd : decode F.2.1 pc = .ok (.arraylength, 1)) (hl : lay k = .inr (1, n, rf)) (kk : xT G F Q (pc + 1) lv (.int (nI n) :: st) I J) : xT G F Q pc lv (.ref (G.1 k) :: st) I J := by
  intro p l e s m args below meth c A C H locs ls hl2 hP hS
  exact va_alen (D := G.2.1) (x := (n, .inr (.inl (J k)))) C.1 C.2.1 C.2.2.2.2.2.1 hP k 1 (xws_a hl) rfl rfl hd (kk p l e s m args below meth c A C H locs ls hl2 hP hS)
theorem xr_iast {k n : Nat} {rf : Nat → Nat} {i x : Int32} (j : Nat) (hd : decode F.2.1 pc = .ok (.iastore, 1)) (hl : lay k = .inr (0, n, rf)) (hi : i = nI j) (hj : j < n) (hn : n < 2 ^ 31) (kk : xT G F Q (pc + 1) lv st (va_up I k (upd (I k) j x)) J) : xT G F Q pc lv (.int x :: .int i :: .ref (G.1 k) :: st) I J := by
  intro p l e s m args below meth c A C H locs ls hl2 hP hS
  subst hi
  have hD : va_D A (xws G I J) := xD C.2.2.2.2.2.2.1 C.2.2.2.2.2.2.2.1
  refine va_iast (D := G.2.1) C.1 C.2.1 C.2.2.2.2.2.1 hP hD hS k 0 (xws_a hl) rfl (vp_in_nI hj hn) hd (fun H1 locs1 hP1 hD1 hS1 => kk p l e s m args below meth c A C H1 locs1 ls hl2 ?_ hS1)
  rw [nI_clamp (by omega), xws_setI (i := upd (I k) j x) (lay_lt_a hl) (by simp only [xs_c, hl]; rfl)] at hP1
  exact hP1
theorem xr_zast {k n : Nat} {rf : Nat → Nat} {i x : Int32} (j : Nat) (hd : decode F.2.1 pc = .ok (.bastore, 1)) (hl : lay k = .inr (2, n, rf)) (hi : i = nI j) (hj : j < n) (hn : n < 2 ^ 31) (hx : x = 0 ∨ x = 1) (kk : xT G F Q (pc + 1) lv st (va_up I k (upd (I k) j x)) J) : xT G F Q pc lv (.int x :: .int i :: .ref (G.1 k) :: st) I J := by
  intro p l e s m args below meth c A C H locs ls hl2 hP hS
  subst hi
  have hD : va_D A (xws G I J) := xD C.2.2.2.2.2.2.1 C.2.2.2.2.2.2.2.1
  refine va_zast (D := G.2.1) C.1 C.2.1 C.2.2.2.2.2.1 hP hD hS k 2 (xws_a hl) rfl (vp_in_nI hj hn) hd (fun H1 locs1 hP1 hD1 hS1 => kk p l e s m args below meth c A C H1 locs1 ls hl2 ?_ hS1)
  rw [nI_clamp (by omega), show vp_nar .boolean x = x by rcases hx with h | h <;> subst h <;> decide, xws_setI (i := upd (I k) j x) (lay_lt_a hl) (by simp only [xs_c, hl]; rfl)] at hP1
  exact hP1
theorem xr_last {k n : Nat} {rf : Nat → Nat} {i : Int32} {x : Int64} (j : Nat) (hd : decode F.2.1 pc = .ok (.lastore, 1)) (hl : lay k = .inr (1, n, rf)) (hi : i = nI j) (hj : j < n) (hn : n < 2 ^ 31) (kk : xT G F Q (pc + 1) lv st I (va_up J k (vp_updL (J k) j x))) : xT G F Q pc lv (.long x :: .int i :: .ref (G.1 k) :: st) I J := by
  intro p l e s m args below meth c A C H locs ls hl2 hP hS
  subst hi
  have hD : va_D A (xws G I J) := xD C.2.2.2.2.2.2.1 C.2.2.2.2.2.2.2.1
  refine va_last (D := G.2.1) C.1 C.2.1 C.2.2.2.2.2.1 hP hD hS k 1 (xws_a hl) rfl (vp_in_nI hj hn) hd (fun H1 locs1 hP1 hD1 hS1 => kk p l e s m args below meth c A C H1 locs1 ls hl2 ?_ hS1)
  rw [nI_clamp (by omega), xws_setJ (j := vp_updL (J k) j x) (lay_lt_a hl) (by simp only [xs_c, hl]; rfl)] at hP1
  exact hP1
-- returns
def xpi (post : Int32 → xI → xJ → Prop) : Option Value → xI → xJ → Prop := fun r I J => ∃ v : Int32, r = some (.int v) ∧ post v I J
def xpl (post : Int64 → xI → xJ → Prop) : Option Value → xI → xJ → Prop := fun r I J => ∃ v : Int64, r = some (.long v) ∧ post v I J
def xpv (post : xI → xJ → Prop) : Option Value → xI → xJ → Prop := fun r I J => r = none ∧ post I J
theorem xr_iret {post : Int32 → xI → xJ → Prop} {v : Int32} (hd : decode F.2.1 pc = .ok (.ireturn, 1)) (hr : F.2.2.2.1 = some .int) (hz : F.2.2.2.2.2 = (0, 0)) (hp : post v I J) : xT G F (xMQ G (xpi post)) pc lv [.int v] I J := by
  intro p l e s m args below meth c A C H locs ls hl2 hP hS
  rw [show F.2.2.2.2.2.1 = 0 by rw [hz], show F.2.2.2.2.2.2 = 0 by rw [hz]]
  exact W.iret (v := v) C.1 C.2.1 (C.2.2.2.2.2.2.2.2.2.1.trans hr) (fun t ht hW => ⟨⟨some (.int v), I, J, rfl, ⟨v, rfl, hp⟩, by rw [ht]; exact hP⟩, hS.F ht⟩) hS.2.2 hd C.2.2.2.2.2.2.2.2.1
theorem xr_zret {post : Int32 → xI → xJ → Prop} {v : Int32} (hd : decode F.2.1 pc = .ok (.ireturn, 1)) (hr : F.2.2.2.1 = some .boolean) (hz : F.2.2.2.2.2 = (0, 0)) (hv : v = 0 ∨ v = 1) (hp : post v I J) : xT G F (xMQ G (xpi post)) pc lv [.int v] I J := by
  intro p l e s m args below meth c A C H locs ls hl2 hP hS
  rw [show F.2.2.2.2.2.1 = 0 by rw [hz], show F.2.2.2.2.2.2 = 0 by rw [hz]]
  exact W.zret (v := v) (ty := .boolean) C.1 C.2.1 (C.2.2.2.2.2.2.2.2.2.1.trans hr) (by rcases hv with h | h <;> subst h <;> decide) (fun t ht hW => ⟨⟨some (.int v), I, J, rfl, ⟨v, rfl, hp⟩, by rw [ht]; exact hP⟩, hS.F ht⟩) hS.2.2 hd C.2.2.2.2.2.2.2.2.1
theorem xr_lret {post : Int64 → xI → xJ → Prop} {v : Int64} (hd : decode F.2.1 pc = .ok (.lreturn, 1)) (hr : F.2.2.2.1 = some .long) (hz : F.2.2.2.2.2 = (0, 0)) (hp : post v I J) : xT G F (xMQ G (xpl post)) pc lv [.long v] I J := by
  intro p l e s m args below meth c A C H locs ls hl2 hP hS
  rw [show F.2.2.2.2.2.1 = 0 by rw [hz], show F.2.2.2.2.2.2 = 0 by rw [hz]]
  exact W.lret (v := v) C.1 C.2.1 (C.2.2.2.2.2.2.2.2.2.1.trans hr) (fun t ht hW => ⟨⟨some (.long v), I, J, rfl, ⟨v, rfl, hp⟩, by rw [ht]; exact hP⟩, hS.F ht⟩) hS.2.2 hd C.2.2.2.2.2.2.2.2.1
theorem xr_vret {post : xI → xJ → Prop} (hd : decode F.2.1 pc = .ok (.return_, 1)) (hr : F.2.2.2.1 = none) (hz : F.2.2.2.2.2 = (0, 0)) (hp : post I J) : xT G F (xMQ G (xpv post)) pc lv [] I J := by
  intro p l e s m args below meth c A C H locs ls hl2 hP hS
  rw [show F.2.2.2.2.2.1 = 0 by rw [hz], show F.2.2.2.2.2.2 = 0 by rw [hz]]
  exact W.vret C.1 C.2.1 (C.2.2.2.2.2.2.2.2.2.1.trans hr) (fun t ht hW => ⟨⟨none, I, J, rfl, ⟨rfl, hp⟩, by rw [ht]; exact hP⟩, hS.F ht⟩) hS.2.2 hd C.2.2.2.2.2.2.2.2.1
theorem xCon.mono {av : List Value} {post post' : Option Value → xI → xJ → Prop} (h : xCon G F av I J post) (hp : ∀ r I' J', post r I' J' → post' r I' J') : xCon G F av I J post' := by
  intro l p e ha hc hk s m args below hf happ hP hT
  obtain ⟨k, o, a1, a2, a3, ⟨⟨⟨r, I', J', b1, b2, b3⟩, b4⟩, b5⟩⟩ := h l p e ha hc hk s m args below hf happ hP hT
  exact ⟨k, o, a1, a2, a3, ⟨⟨⟨r, I', J', b1, hp _ _ _ b2, b3⟩, b4⟩, b5⟩⟩
-- calls
theorem xPc_blind {av : List Value} : FrameBlind (xPc G av I J) := fun a U g mk q => by
  obtain ⟨q0, qP, qK, qN, qI⟩ := q
  exact ⟨q0, qP, va_K.moved (u := U) (U := U.calling g mk a) (Vm.Alike.refl U.vm) qK, va_Nw.same rfl rfl qN, qI⟩
theorem xPc_in {p : Program} {s : State} {m : MethodId} {args : Array Value} {meth : Method} {c : Code} {A : Nat → Prop} {H : Heap} {av : List Value} (C : xC G F p s m args meth c A) (hP : va_P G.2.1 xcl (xws G I J) H) : ∀ U : State, U.heap = H → s.WarmedH U.vm → xPc G av I J av.toArray U := fun U hU hW => ⟨rfl, by rw [hU]; exact hP, va_K.moved hW.alike C.2.2.2.2.2.1, va_Nw.warmM hW C.2.2.2.2.2.2.2.2.2.2, C.2.2.2.2.2.2.1⟩
theorem x_after {p : Program} {l : Launch} {e : Env} {R : Room} {s : State} {m : MethodId} {args : Array Value} {below : List Frame} {meth : Method} {c : Code} {H : Heap} {locs : List Loc} {cells slots : Nat} {QQ : State → Prop} {ls : Array Slot} {rest st0 : List Value} {a : Array Value} {A : Nat → Prop} {post : Option Value → xI → xJ → Prop}
    (hr : va_Run p l e R s m args below meth c H locs cells slots 0 0 (F0 m pc ls st0) rest (xQc G post (xA G) a) (xA G)) (hS : va_S A s.heap H locs) (hA : ∀ q, xA G q → A q)
    (kk : ∀ (r : Option Value) (I' : xI) (J' : xJ) (H1 : Heap) (locs1 : List Loc), post r I' J' → va_P G.2.1 xcl (xws G I' J') H1 → va_S A s.heap H1 locs1 → W p l e R s m args below meth c H1 locs1 cells slots QQ (F0 m (pc + 3) ls (r.toList ++ rest))) : W p l e R s m args below meth c H locs cells slots QQ (F0 m pc ls st0) := by
  intro T hT X
  obtain ⟨v, st₀, t, T', L, h0, X', hL, e1, e2, ⟨⟨r, I', J', hv, hp, hb⟩, hz, hk⟩, st⟩ := hr T hT X
  cases hv
  rw [h0] at hz hk
  obtain ⟨t2, a1, b1⟩ := kk v I' J' T'.heap (locs ++ L) hp (by rw [e1]; exact hb)
    ⟨Nat.le_trans hS.1 (by rw [e1]; exact hz), fun q h1 h2 => by rw [e1, hk q (Nat.lt_of_lt_of_le h1 hS.1) (fun z => h2 (hA q z))]; exact hS.2.1 q h1 h2, fun q hq => by
      rcases List.mem_append.mp hq with h | h
      · exact hS.2.2 q h
      · exact hA _ (hL q h)⟩ T' rfl X'
  exact ⟨t2, st t2 a1, b1⟩
def xcb (F F' : xM) (n : Nat) : Prop := Cond.code F'.1 F'.2.1 F'.2.2.1 F'.2.2.2.1 ∈ xw ∧ Cond.initialized F'.1.cls ∈ xw ∧ (F'.1.cls ≠ "java/lang/invoke/MethodHandle" ∧ F'.1.cls ≠ "java/lang/invoke/VarHandle" ∧ (parseMethodDescriptor F'.1.desc).map (fun d => d.parameters.length) = some n) ∧ (F'.2.2.2.2.1.frames + 1 ≤ F.2.2.2.2.1.frames ∧ 8 + (F'.2.2.1 + 11) + F'.2.2.2.2.1.locals ≤ F.2.2.2.2.1.locals) ∧ F'.2.2.2.2.1.cells = 0 ∧ F'.2.2.2.2.1.slots = 0 ∧ F.2.2.2.2.2.1 ≤ F.2.2.2.2.1.cells ∧ F.2.2.2.2.2.2 ≤ F.2.2.2.2.1.slots
def xcv (F F' : xM) (ix n : Nat) : Prop := xcb F F' n ∧ Cond.methodLink F.1.cls ix F'.1 ∈ xw ∧ Cond.instanceMethod F'.1 ∈ xw ∧ Cond.selects F'.1.cls F'.1 F'.1 ∈ xw
def xcs (F F' : xM) (ix n : Nat) : Prop := xcb F F' n ∧ Cond.methodLink F.1.cls ix F'.1 ∈ xw ∧ Cond.static F'.1 ∈ xw
theorem xcb.B {p : Program} {s : State} {m : MethodId} {args : Array Value} {meth : Method} {c : Code} {A : Nat → Prop} {F' : xM} {ix n : Nat} (h : xcb F F' n) (hl : Cond.methodLink F.1.cls ix F'.1 ∈ xw) (C : xC G F p s m args meth c A) : CallB F.2.2.2.2.1 s args F.1.cls ix F'.1 F'.2.1 F'.2.2.1 F'.2.2.2.1 (xown F') F'.2.2.2.2.1 0 0 n := by
  obtain ⟨h1, h2, h3, h4, h5, h6, h7, h8⟩ := h
  have hts := C.2.2.2.2.1
  exact callB_of (Ts := xw) (ws' := xw) n hts (fun w hw => by
    rcases List.mem_cons.mp hw with e | h
    · subst e
      exact ⟨h1, good_of_word (xw_good h1)⟩
    · exact ⟨h, good_of_word (xw_good h)⟩) rfl h5 h6 (hts _ h2) (hts _ hl) h3 h4
theorem xr_callV {F' : xM} {ix b n ci : Nat} {fs : List xs_F} {st0 : List Value} {post : Option Value → xI → xJ → Prop} (As : List Value) (hd : decode F.2.1 pc = .ok (.invokevirtual ix, 3)) (hw : xcv F F' ix n) (hn : As.length = n) (hl : lay b = .inl (ci, fs)) (hc0 : (xcl[ci]?).map (fun q => q.1) = some F'.1.cls) (hb : b < xN) (hst : st0 = As.reverse ++ .ref (G.1 b) :: st) (hrm : (st.map fun v => v.category).sum ≤ 8) (hc : xCon G F' (.ref (G.1 b) :: As) I J post) (kk : ∀ r I' J', post r I' J' → xT G F Q (pc + 3) lv (r.toList ++ st) I' J') : xT G F Q pc lv st0 I J := by
  intro p l e s m args below meth c A C H locs ls hl2 hP hS
  obtain ⟨hcb, hw1, hw2, hw3⟩ := hw
  have hts := C.2.2.2.2.1
  cases hq : xcl[ci]? with
  | none => rw [hq] at hc0; cases hc0
  | some q =>
    rw [hq] at hc0
    have hqc : q.1 = F'.1.cls := Option.some.inj hc0
    have he : (xws G I J)[b]? = some (G.1 b, .inr (ci, xs_fs G.1 (I b) (J b) 0 fs)) := by
      rw [xws_at hb]; simp only [xs_e, xs_c, hl]
    refine x_after (va_runV (C := F'.1.cls) (nL := F.2.2.1) (cc := F.2.1) (own := F.1.cls) (Ts := xw) (As := As) (rest := st) ⟨C.1, C.2.1, C.2.2.1, C.2.2.2.1, hts⟩ (hc l) ⟨hcb.B hw1 C, hts _ hw2, hts _ hw3⟩ ⟨xPc_blind, ?_, xPc_in C hP⟩ rfl hn hl2.1 hst (lv_room hrm) hd ⟨hcb.2.2.2.2.2.2.1, hcb.2.2.2.2.2.2.2⟩) hS (fun q hq => ?_) (fun r I' J' H1 locs1 hp hP1 hS1 => kk r I' J' hp p l e s m args below meth c A C H1 locs1 ls hl2 hP1 hS1)
    · have := va_recv C.2.2.2.2.2.1 hP hq he
      rw [hqc] at this
      exact this
    · obtain ⟨k, hk, rfl⟩ := hq
      exact C.2.2.2.2.2.2.2.1 k hk
theorem xr_callS {F' : xM} {ix n : Nat} {st0 : List Value} {post : Option Value → xI → xJ → Prop} (As : List Value) (hd : decode F.2.1 pc = .ok (.invokestatic ix, 3)) (hw : xcs F F' ix n) (hn : As.length = n) (hst : st0 = As.reverse ++ st) (hrm : (st.map fun v => v.category).sum ≤ 8) (hc : xCon G F' As I J post) (kk : ∀ r I' J', post r I' J' → xT G F Q (pc + 3) lv (r.toList ++ st) I' J') : xT G F Q pc lv st0 I J := by
  intro p l e s m args below meth c A C H locs ls hl2 hP hS
  obtain ⟨hcb, hw1, hw2⟩ := hw
  have hts := C.2.2.2.2.1
  refine x_after (va_runS (nL := F.2.2.1) (cc := F.2.1) (own := F.1.cls) (Ts := xw) (As := As) (rest := st) ⟨C.1, C.2.1, C.2.2.1, C.2.2.2.1, hts⟩ (hc l) ⟨hcb.B hw1 C, hts _ hw2⟩ ⟨xPc_blind, xPc_in C hP⟩ rfl hn hl2.1 hst (lv_room hrm) hd ⟨hcb.2.2.2.2.2.2.1, hcb.2.2.2.2.2.2.2⟩) hS (fun q hq => ?_) (fun r I' J' H1 locs1 hp hP1 hS1 => kk r I' J' hp p l e s m args below meth c A C H1 locs1 ls hl2 hP1 hS1)
  obtain ⟨k, hk, rfl⟩ := hq
  exact C.2.2.2.2.2.2.2.1 k hk
theorem xr_callG {F' : xM} {n : Nat} {st0 : List Value} {post : Option Value → xI → xJ → Prop} (As : List Value) (hd : decode F.2.1 pc = .ok (.invokestatic 60, 3)) (hF : F.1.cls = RX3) (hF' : F'.1 = yX8_isGoal) (hcb : xcb F F' n) (hw2 : Cond.static F'.1 ∈ xw) (hn : As.length = n) (hst : st0 = As.reverse ++ st) (hrm : (st.map fun v => v.category).sum ≤ 8) (hc : xCon G F' As I J post) (kk : ∀ r I' J', post r I' J' → xT G F Q (pc + 3) lv (r.toList ++ st) I' J') : xT G F Q pc lv st0 I J := by
  intro p l e s m args below meth c A C H locs ls hl2 hP hS
  have hts := C.2.2.2.2.1
  have hcw : va_CN F.2.2.2.2.1 s args F.1.cls 60 F'.1 RX8 F'.2.1 F'.2.2.1 F'.2.2.2.1 (xown F') F'.2.2.2.2.1 0 0 n := by
    obtain ⟨h1, h2, h3, h4, h5, h6, h7, h8⟩ := hcb
    exact va_cnB (Ts := xw) (ws' := xw) n hts (fun w hw => by
      rcases List.mem_cons.mp hw with e | h
      · subst e
        exact ⟨h1, good_of_word (xw_good h1)⟩
      · exact ⟨h, good_of_word (xw_good h)⟩) rfl h5 h6 (by rw [hF, hF']; exact C.2.2.2.2.2.2.2.2.2.2) (hts _ h2) h3 h4
  refine x_after (va_runSN (nL := F.2.2.1) (cc := F.2.1) (own := F.1.cls) (Ts := xw) (As := As) (rest := st) ⟨C.1, C.2.1, C.2.2.1, C.2.2.2.1, hts⟩ (hc l) ⟨hcw, hts _ hw2, trivial⟩ ⟨xPc_blind, xPc_in C hP⟩ rfl hn hl2.1 hst (lv_room hrm) hd ⟨hcb.2.2.2.2.2.2.1, hcb.2.2.2.2.2.2.2⟩) hS (fun q hq => ?_) (fun r I' J' H1 locs1 hp hP1 hS1 => kk r I' J' hp p l e s m args below meth c A C H1 locs1 ls hl2 hP1 hS1)
  obtain ⟨k, hk, rfl⟩ := hq
  exact C.2.2.2.2.2.2.2.1 k hk
end XM
end
