section
-- ===== PART A: goes FIRST, ahead of the names: the tables' words, and 'selects' of the private methods out of them =====
/-- a private method of a class that the tables say can be made, by its rows of tables_1 -/
def lw_okq (q : MethodName × Nat) : Prop := (q.1.cls ≠ "java/lang/invoke/MethodHandle" ∧ q.1.cls ≠ "java/lang/invoke/VarHandle") ∧ Cond.instantiable q.1.cls q.2 ∈ tables_1 ∧ Cond.privateMethod q.1 ∈ tables_1 ∧ Cond.instanceMethod q.1 ∈ tables_1
theorem lw_p0 : lw_okq (⟨"SwitchTower$Machine", "refresh", "()V"⟩, 10) := ⟨⟨by decide +kernel, by decide +kernel⟩, List.mem_of_getElem? (i := 46) (by decide +kernel), List.mem_of_getElem? (i := 374) (by decide +kernel), List.mem_of_getElem? (i := 375) (by decide +kernel)⟩
theorem lw_p1 : lw_okq (⟨"SwitchTower$Machine", "goals", "(I)I"⟩, 10) := ⟨⟨by decide +kernel, by decide +kernel⟩, List.mem_of_getElem? (i := 46) (by decide +kernel), List.mem_of_getElem? (i := 378) (by decide +kernel), List.mem_of_getElem? (i := 379) (by decide +kernel)⟩
theorem lw_p2 : lw_okq (⟨"SwitchTower$Machine", "writesUnlike", "(I)Z"⟩, 10) := ⟨⟨by decide +kernel, by decide +kernel⟩, List.mem_of_getElem? (i := 46) (by decide +kernel), List.mem_of_getElem? (i := 382) (by decide +kernel), List.mem_of_getElem? (i := 383) (by decide +kernel)⟩
theorem lw_p3 : lw_okq (⟨"SwitchTower$Machine", "listMarks", "()V"⟩, 10) := ⟨⟨by decide +kernel, by decide +kernel⟩, List.mem_of_getElem? (i := 46) (by decide +kernel), List.mem_of_getElem? (i := 386) (by decide +kernel), List.mem_of_getElem? (i := 387) (by decide +kernel)⟩
theorem lw_p4 : lw_okq (⟨"SwitchTower$Machine", "wireMarks", "(II)V"⟩, 10) := ⟨⟨by decide +kernel, by decide +kernel⟩, List.mem_of_getElem? (i := 46) (by decide +kernel), List.mem_of_getElem? (i := 394) (by decide +kernel), List.mem_of_getElem? (i := 395) (by decide +kernel)⟩
theorem lw_p5 : lw_okq (⟨"SwitchTower", "forgetAnswers", "()V"⟩, 9) := ⟨⟨by decide +kernel, by decide +kernel⟩, List.mem_of_getElem? (i := 15) (by decide +kernel), List.mem_of_getElem? (i := 398) (by decide +kernel), List.mem_of_getElem? (i := 399) (by decide +kernel)⟩
theorem lw_p6 : lw_okq (⟨"SwitchTower", "hasLostWayBack", "(LSwitchTower$Word;)Z"⟩, 9) := ⟨⟨by decide +kernel, by decide +kernel⟩, List.mem_of_getElem? (i := 15) (by decide +kernel), List.mem_of_getElem? (i := 451) (by decide +kernel), List.mem_of_getElem? (i := 452) (by decide +kernel)⟩
theorem lw_p7 : lw_okq (⟨"SwitchTower", "refusalOfGiven", "()I"⟩, 9) := ⟨⟨by decide +kernel, by decide +kernel⟩, List.mem_of_getElem? (i := 15) (by decide +kernel), List.mem_of_getElem? (i := 475) (by decide +kernel), List.mem_of_getElem? (i := 476) (by decide +kernel)⟩
theorem lw_p8 : lw_okq (⟨"SwitchTower", "join", "(LSwitchTower$Word;LSwitchTower$Word;I)I"⟩, 9) := ⟨⟨by decide +kernel, by decide +kernel⟩, List.mem_of_getElem? (i := 15) (by decide +kernel), List.mem_of_getElem? (i := 486) (by decide +kernel), List.mem_of_getElem? (i := 487) (by decide +kernel)⟩
theorem lw_p9 : lw_okq (⟨"SwitchTower", "bring", "(LSwitchTower$Word;I)I"⟩, 9) := ⟨⟨by decide +kernel, by decide +kernel⟩, List.mem_of_getElem? (i := 15) (by decide +kernel), List.mem_of_getElem? (i := 494) (by decide +kernel), List.mem_of_getElem? (i := 495) (by decide +kernel)⟩
theorem lw_p10 : lw_okq (⟨"SwitchTower", "hasBackStates", "(LSwitchTower$Word;)Z"⟩, 9) := ⟨⟨by decide +kernel, by decide +kernel⟩, List.mem_of_getElem? (i := 15) (by decide +kernel), List.mem_of_getElem? (i := 521) (by decide +kernel), List.mem_of_getElem? (i := 522) (by decide +kernel)⟩
theorem lw_p11 : lw_okq (⟨"SwitchTower$Machine", "hasLetters", "(II)Z"⟩, 10) := ⟨⟨by decide +kernel, by decide +kernel⟩, List.mem_of_getElem? (i := 46) (by decide +kernel), List.mem_of_getElem? (i := 533) (by decide +kernel), List.mem_of_getElem? (i := 534) (by decide +kernel)⟩
theorem lw_p12 : lw_okq (⟨"SwitchTower", "walkDown", "(LSwitchTower$Word;II)I"⟩, 9) := ⟨⟨by decide +kernel, by decide +kernel⟩, List.mem_of_getElem? (i := 15) (by decide +kernel), List.mem_of_getElem? (i := 537) (by decide +kernel), List.mem_of_getElem? (i := 538) (by decide +kernel)⟩
theorem lw_p13 : lw_okq (⟨"SwitchTower", "gather", "(II)I"⟩, 9) := ⟨⟨by decide +kernel, by decide +kernel⟩, List.mem_of_getElem? (i := 15) (by decide +kernel), List.mem_of_getElem? (i := 555) (by decide +kernel), List.mem_of_getElem? (i := 556) (by decide +kernel)⟩
theorem lw_p14 : lw_okq (⟨"SwitchTower$KeyTable", "slotOf", "(JI)I"⟩, 5) := ⟨⟨by decide +kernel, by decide +kernel⟩, List.mem_of_getElem? (i := 140) (by decide +kernel), List.mem_of_getElem? (i := 577) (by decide +kernel), List.mem_of_getElem? (i := 578) (by decide +kernel)⟩
theorem lw_p15 : lw_okq (⟨"SwitchTower$Pool", "keepRound", "()V"⟩, 13) := ⟨⟨by decide +kernel, by decide +kernel⟩, List.mem_of_getElem? (i := 184) (by decide +kernel), List.mem_of_getElem? (i := 595) (by decide +kernel), List.mem_of_getElem? (i := 596) (by decide +kernel)⟩
def lw_privs_1 : List (MethodName × Nat) := [(⟨"SwitchTower$Machine", "refresh", "()V"⟩, 10), (⟨"SwitchTower$Machine", "goals", "(I)I"⟩, 10), (⟨"SwitchTower$Machine", "writesUnlike", "(I)Z"⟩, 10), (⟨"SwitchTower$Machine", "listMarks", "()V"⟩, 10), (⟨"SwitchTower$Machine", "wireMarks", "(II)V"⟩, 10), (⟨"SwitchTower", "forgetAnswers", "()V"⟩, 9), (⟨"SwitchTower", "hasLostWayBack", "(LSwitchTower$Word;)Z"⟩, 9), (⟨"SwitchTower", "refusalOfGiven", "()I"⟩, 9), (⟨"SwitchTower", "join", "(LSwitchTower$Word;LSwitchTower$Word;I)I"⟩, 9), (⟨"SwitchTower", "bring", "(LSwitchTower$Word;I)I"⟩, 9), (⟨"SwitchTower", "hasBackStates", "(LSwitchTower$Word;)Z"⟩, 9), (⟨"SwitchTower$Machine", "hasLetters", "(II)Z"⟩, 10), (⟨"SwitchTower", "walkDown", "(LSwitchTower$Word;II)I"⟩, 9), (⟨"SwitchTower", "gather", "(II)I"⟩, 9), (⟨"SwitchTower$KeyTable", "slotOf", "(JI)I"⟩, 5), (⟨"SwitchTower$Pool", "keepRound", "()V"⟩, 13)]
theorem lw_r1 : ∀ q ∈ lw_privs_1, lw_okq q := List.forall_mem_cons.mpr ⟨lw_p0, List.forall_mem_cons.mpr ⟨lw_p1, List.forall_mem_cons.mpr ⟨lw_p2, List.forall_mem_cons.mpr ⟨lw_p3, List.forall_mem_cons.mpr ⟨lw_p4, List.forall_mem_cons.mpr ⟨lw_p5, List.forall_mem_cons.mpr ⟨lw_p6, List.forall_mem_cons.mpr ⟨lw_p7, List.forall_mem_cons.mpr ⟨lw_p8, List.forall_mem_cons.mpr ⟨lw_p9, List.forall_mem_cons.mpr ⟨lw_p10, List.forall_mem_cons.mpr ⟨lw_p11, List.forall_mem_cons.mpr ⟨lw_p12, List.forall_mem_cons.mpr ⟨lw_p13, List.forall_mem_cons.mpr ⟨lw_p14, List.forall_mem_cons.mpr ⟨lw_p15, fun _ h => absurd h List.not_mem_nil⟩⟩⟩⟩⟩⟩⟩⟩⟩⟩⟩⟩⟩⟩⟩⟩
theorem lw_p16 : lw_okq (⟨"SwitchTower$Pool", "refine", "()V"⟩, 13) := ⟨⟨by decide +kernel, by decide +kernel⟩, List.mem_of_getElem? (i := 184) (by decide +kernel), List.mem_of_getElem? (i := 602) (by decide +kernel), List.mem_of_getElem? (i := 603) (by decide +kernel)⟩
theorem lw_p17 : lw_okq (⟨"SwitchTower$Pool", "arePartedBy", "(III)Z"⟩, 13) := ⟨⟨by decide +kernel, by decide +kernel⟩, List.mem_of_getElem? (i := 184) (by decide +kernel), List.mem_of_getElem? (i := 626) (by decide +kernel), List.mem_of_getElem? (i := 627) (by decide +kernel)⟩
theorem lw_p18 : lw_okq (⟨"SwitchTower$Pool", "firstPartingLetter", "(III)I"⟩, 13) := ⟨⟨by decide +kernel, by decide +kernel⟩, List.mem_of_getElem? (i := 184) (by decide +kernel), List.mem_of_getElem? (i := 630) (by decide +kernel), List.mem_of_getElem? (i := 631) (by decide +kernel)⟩
theorem lw_p19 : lw_okq (⟨"SwitchTower$Pool", "firstUnlikeLetter", "(I)I"⟩, 13) := ⟨⟨by decide +kernel, by decide +kernel⟩, List.mem_of_getElem? (i := 184) (by decide +kernel), List.mem_of_getElem? (i := 634) (by decide +kernel), List.mem_of_getElem? (i := 635) (by decide +kernel)⟩
theorem lw_p20 : lw_okq (⟨"SwitchTower$Levels", "buildBranch", "(LSwitchTower$Machine;III)V"⟩, 8) := ⟨⟨by decide +kernel, by decide +kernel⟩, List.mem_of_getElem? (i := 101) (by decide +kernel), List.mem_of_getElem? (i := 658) (by decide +kernel), List.mem_of_getElem? (i := 659) (by decide +kernel)⟩
theorem lw_p21 : lw_okq (⟨"SwitchTower$Levels", "ringLength", "(LSwitchTower$Word;II)I"⟩, 8) := ⟨⟨by decide +kernel, by decide +kernel⟩, List.mem_of_getElem? (i := 101) (by decide +kernel), List.mem_of_getElem? (i := 671) (by decide +kernel), List.mem_of_getElem? (i := 672) (by decide +kernel)⟩
theorem lw_p22 : lw_okq (⟨"SwitchTower", "levelOf", "(I)I"⟩, 9) := ⟨⟨by decide +kernel, by decide +kernel⟩, List.mem_of_getElem? (i := 15) (by decide +kernel), List.mem_of_getElem? (i := 703) (by decide +kernel), List.mem_of_getElem? (i := 704) (by decide +kernel)⟩
theorem lw_p23 : lw_okq (⟨"SwitchTower", "walkFrom", "(II)I"⟩, 9) := ⟨⟨by decide +kernel, by decide +kernel⟩, List.mem_of_getElem? (i := 15) (by decide +kernel), List.mem_of_getElem? (i := 707) (by decide +kernel), List.mem_of_getElem? (i := 708) (by decide +kernel)⟩
theorem lw_p24 : lw_okq (⟨"SwitchTower$LevelGroup", "behind", "(JJ)J"⟩, 4) := ⟨⟨by decide +kernel, by decide +kernel⟩, List.mem_of_getElem? (i := 134) (by decide +kernel), List.mem_of_getElem? (i := 754) (by decide +kernel), List.mem_of_getElem? (i := 755) (by decide +kernel)⟩
theorem lw_p25 : lw_okq (⟨"SwitchTower$LevelGroup", "addBlock", "(IJ)Z"⟩, 4) := ⟨⟨by decide +kernel, by decide +kernel⟩, List.mem_of_getElem? (i := 134) (by decide +kernel), List.mem_of_getElem? (i := 759) (by decide +kernel), List.mem_of_getElem? (i := 760) (by decide +kernel)⟩
theorem lw_p26 : lw_okq (⟨"SwitchTower$ShortWords", "enterWithin", "(LSwitchTower$Machine;I)Z"⟩, 10) := ⟨⟨by decide +kernel, by decide +kernel⟩, List.mem_of_getElem? (i := 238) (by decide +kernel), List.mem_of_getElem? (i := 771) (by decide +kernel), List.mem_of_getElem? (i := 772) (by decide +kernel)⟩
theorem lw_p27 : lw_okq (⟨"SwitchTower$ShortWords", "beginWithEmpty", "()V"⟩, 10) := ⟨⟨by decide +kernel, by decide +kernel⟩, List.mem_of_getElem? (i := 238) (by decide +kernel), List.mem_of_getElem? (i := 775) (by decide +kernel), List.mem_of_getElem? (i := 776) (by decide +kernel)⟩
theorem lw_p28 : lw_okq (⟨"SwitchTower$ShortWords", "extend", "(LSwitchTower$Machine;I)Z"⟩, 10) := ⟨⟨by decide +kernel, by decide +kernel⟩, List.mem_of_getElem? (i := 238) (by decide +kernel), List.mem_of_getElem? (i := 785) (by decide +kernel), List.mem_of_getElem? (i := 786) (by decide +kernel)⟩
theorem lw_p29 : lw_okq (⟨"SwitchTower$ShortWords", "isLaw", "(I)Z"⟩, 10) := ⟨⟨by decide +kernel, by decide +kernel⟩, List.mem_of_getElem? (i := 238) (by decide +kernel), List.mem_of_getElem? (i := 801) (by decide +kernel), List.mem_of_getElem? (i := 802) (by decide +kernel)⟩
theorem lw_p30 : lw_okq (⟨"SwitchTower$ShortWords", "lookAtParts", "(LSwitchTower$Machine;II)Z"⟩, 10) := ⟨⟨by decide +kernel, by decide +kernel⟩, List.mem_of_getElem? (i := 238) (by decide +kernel), List.mem_of_getElem? (i := 826) (by decide +kernel), List.mem_of_getElem? (i := 827) (by decide +kernel)⟩
theorem lw_p31 : lw_okq (⟨"SwitchTower$ShortWords", "addUnlike", "()Z"⟩, 10) := ⟨⟨by decide +kernel, by decide +kernel⟩, List.mem_of_getElem? (i := 238) (by decide +kernel), List.mem_of_getElem? (i := 833) (by decide +kernel), List.mem_of_getElem? (i := 834) (by decide +kernel)⟩
def lw_privs_2 : List (MethodName × Nat) := [(⟨"SwitchTower$Pool", "refine", "()V"⟩, 13), (⟨"SwitchTower$Pool", "arePartedBy", "(III)Z"⟩, 13), (⟨"SwitchTower$Pool", "firstPartingLetter", "(III)I"⟩, 13), (⟨"SwitchTower$Pool", "firstUnlikeLetter", "(I)I"⟩, 13), (⟨"SwitchTower$Levels", "buildBranch", "(LSwitchTower$Machine;III)V"⟩, 8), (⟨"SwitchTower$Levels", "ringLength", "(LSwitchTower$Word;II)I"⟩, 8), (⟨"SwitchTower", "levelOf", "(I)I"⟩, 9), (⟨"SwitchTower", "walkFrom", "(II)I"⟩, 9), (⟨"SwitchTower$LevelGroup", "behind", "(JJ)J"⟩, 4), (⟨"SwitchTower$LevelGroup", "addBlock", "(IJ)Z"⟩, 4), (⟨"SwitchTower$ShortWords", "enterWithin", "(LSwitchTower$Machine;I)Z"⟩, 10), (⟨"SwitchTower$ShortWords", "beginWithEmpty", "()V"⟩, 10), (⟨"SwitchTower$ShortWords", "extend", "(LSwitchTower$Machine;I)Z"⟩, 10), (⟨"SwitchTower$ShortWords", "isLaw", "(I)Z"⟩, 10), (⟨"SwitchTower$ShortWords", "lookAtParts", "(LSwitchTower$Machine;II)Z"⟩, 10), (⟨"SwitchTower$ShortWords", "addUnlike", "()Z"⟩, 10)]
theorem lw_r2 : ∀ q ∈ lw_privs_2, lw_okq q := List.forall_mem_cons.mpr ⟨lw_p16, List.forall_mem_cons.mpr ⟨lw_p17, List.forall_mem_cons.mpr ⟨lw_p18, List.forall_mem_cons.mpr ⟨lw_p19, List.forall_mem_cons.mpr ⟨lw_p20, List.forall_mem_cons.mpr ⟨lw_p21, List.forall_mem_cons.mpr ⟨lw_p22, List.forall_mem_cons.mpr ⟨lw_p23, List.forall_mem_cons.mpr ⟨lw_p24, List.forall_mem_cons.mpr ⟨lw_p25, List.forall_mem_cons.mpr ⟨lw_p26, List.forall_mem_cons.mpr ⟨lw_p27, List.forall_mem_cons.mpr ⟨lw_p28, List.forall_mem_cons.mpr ⟨lw_p29, List.forall_mem_cons.mpr ⟨lw_p30, List.forall_mem_cons.mpr ⟨lw_p31, fun _ h => absurd h List.not_mem_nil⟩⟩⟩⟩⟩⟩⟩⟩⟩⟩⟩⟩⟩⟩⟩⟩
theorem lw_p32 : lw_okq (⟨"SwitchTowerModel", "isBack", "(I)Z"⟩, 42) := ⟨⟨by decide +kernel, by decide +kernel⟩, List.mem_of_getElem? (i := 842) (by decide +kernel), List.mem_of_getElem? (i := 1016) (by decide +kernel), List.mem_of_getElem? (i := 1017) (by decide +kernel)⟩
theorem lw_p33 : lw_okq (⟨"SwitchTowerModel", "isFair", "(I)Z"⟩, 42) := ⟨⟨by decide +kernel, by decide +kernel⟩, List.mem_of_getElem? (i := 842) (by decide +kernel), List.mem_of_getElem? (i := 1020) (by decide +kernel), List.mem_of_getElem? (i := 1021) (by decide +kernel)⟩
theorem lw_p34 : lw_okq (⟨"SwitchTowerModel", "findTokens", "()V"⟩, 42) := ⟨⟨by decide +kernel, by decide +kernel⟩, List.mem_of_getElem? (i := 842) (by decide +kernel), List.mem_of_getElem? (i := 1032) (by decide +kernel), List.mem_of_getElem? (i := 1033) (by decide +kernel)⟩
theorem lw_p35 : lw_okq (⟨"SwitchTowerModel", "isWhole", "()Z"⟩, 42) := ⟨⟨by decide +kernel, by decide +kernel⟩, List.mem_of_getElem? (i := 842) (by decide +kernel), List.mem_of_getElem? (i := 1036) (by decide +kernel), List.mem_of_getElem? (i := 1037) (by decide +kernel)⟩
theorem lw_p36 : lw_okq (⟨"SwitchTowerModel", "copy", "(II)V"⟩, 42) := ⟨⟨by decide +kernel, by decide +kernel⟩, List.mem_of_getElem? (i := 842) (by decide +kernel), List.mem_of_getElem? (i := 1047) (by decide +kernel), List.mem_of_getElem? (i := 1048) (by decide +kernel)⟩
theorem lw_p37 : lw_okq (⟨"SwitchTowerModel", "add", "(II)V"⟩, 42) := ⟨⟨by decide +kernel, by decide +kernel⟩, List.mem_of_getElem? (i := 842) (by decide +kernel), List.mem_of_getElem? (i := 1051) (by decide +kernel), List.mem_of_getElem? (i := 1052) (by decide +kernel)⟩
theorem lw_p38 : lw_okq (⟨"SwitchTowerModel", "takeRow", "(II)Z"⟩, 42) := ⟨⟨by decide +kernel, by decide +kernel⟩, List.mem_of_getElem? (i := 842) (by decide +kernel), List.mem_of_getElem? (i := 1079) (by decide +kernel), List.mem_of_getElem? (i := 1080) (by decide +kernel)⟩
theorem lw_p39 : lw_okq (⟨"SwitchTowerModel", "rewrite", "(I)V"⟩, 42) := ⟨⟨by decide +kernel, by decide +kernel⟩, List.mem_of_getElem? (i := 842) (by decide +kernel), List.mem_of_getElem? (i := 1083) (by decide +kernel), List.mem_of_getElem? (i := 1084) (by decide +kernel)⟩
theorem lw_p40 : lw_okq (⟨"SwitchTowerModel", "step", "(II)V"⟩, 42) := ⟨⟨by decide +kernel, by decide +kernel⟩, List.mem_of_getElem? (i := 842) (by decide +kernel), List.mem_of_getElem? (i := 1087) (by decide +kernel), List.mem_of_getElem? (i := 1088) (by decide +kernel)⟩
theorem lw_p41 : lw_okq (⟨"SwitchTowerModel", "rowNumber", "()I"⟩, 42) := ⟨⟨by decide +kernel, by decide +kernel⟩, List.mem_of_getElem? (i := 842) (by decide +kernel), List.mem_of_getElem? (i := 1091) (by decide +kernel), List.mem_of_getElem? (i := 1092) (by decide +kernel)⟩
theorem lw_p42 : lw_okq (⟨"SwitchTowerModel", "partAtRow", "(II)V"⟩, 42) := ⟨⟨by decide +kernel, by decide +kernel⟩, List.mem_of_getElem? (i := 842) (by decide +kernel), List.mem_of_getElem? (i := 1099) (by decide +kernel), List.mem_of_getElem? (i := 1100) (by decide +kernel)⟩
theorem lw_p43 : lw_okq (⟨"SwitchTowerModel", "partAt", "(III)I"⟩, 42) := ⟨⟨by decide +kernel, by decide +kernel⟩, List.mem_of_getElem? (i := 842) (by decide +kernel), List.mem_of_getElem? (i := 1103) (by decide +kernel), List.mem_of_getElem? (i := 1104) (by decide +kernel)⟩
theorem lw_p44 : lw_okq (⟨"SwitchTowerModel", "takeTwo", "(II)I"⟩, 42) := ⟨⟨by decide +kernel, by decide +kernel⟩, List.mem_of_getElem? (i := 842) (by decide +kernel), List.mem_of_getElem? (i := 1111) (by decide +kernel), List.mem_of_getElem? (i := 1112) (by decide +kernel)⟩
theorem lw_p45 : lw_okq (⟨"SwitchTowerModel", "beginHeap", "()V"⟩, 42) := ⟨⟨by decide +kernel, by decide +kernel⟩, List.mem_of_getElem? (i := 842) (by decide +kernel), List.mem_of_getElem? (i := 1115) (by decide +kernel), List.mem_of_getElem? (i := 1116) (by decide +kernel)⟩
theorem lw_p46 : lw_okq (⟨"SwitchTowerModel", "toHeap", "(I)I"⟩, 42) := ⟨⟨by decide +kernel, by decide +kernel⟩, List.mem_of_getElem? (i := 842) (by decide +kernel), List.mem_of_getElem? (i := 1119) (by decide +kernel), List.mem_of_getElem? (i := 1120) (by decide +kernel)⟩
theorem lw_p47 : lw_okq (⟨"SwitchTowerModel", "findInHeap", "(I)I"⟩, 42) := ⟨⟨by decide +kernel, by decide +kernel⟩, List.mem_of_getElem? (i := 842) (by decide +kernel), List.mem_of_getElem? (i := 1123) (by decide +kernel), List.mem_of_getElem? (i := 1124) (by decide +kernel)⟩
def lw_privs_3 : List (MethodName × Nat) := [(⟨"SwitchTowerModel", "isBack", "(I)Z"⟩, 42), (⟨"SwitchTowerModel", "isFair", "(I)Z"⟩, 42), (⟨"SwitchTowerModel", "findTokens", "()V"⟩, 42), (⟨"SwitchTowerModel", "isWhole", "()Z"⟩, 42), (⟨"SwitchTowerModel", "copy", "(II)V"⟩, 42), (⟨"SwitchTowerModel", "add", "(II)V"⟩, 42), (⟨"SwitchTowerModel", "takeRow", "(II)Z"⟩, 42), (⟨"SwitchTowerModel", "rewrite", "(I)V"⟩, 42), (⟨"SwitchTowerModel", "step", "(II)V"⟩, 42), (⟨"SwitchTowerModel", "rowNumber", "()I"⟩, 42), (⟨"SwitchTowerModel", "partAtRow", "(II)V"⟩, 42), (⟨"SwitchTowerModel", "partAt", "(III)I"⟩, 42), (⟨"SwitchTowerModel", "takeTwo", "(II)I"⟩, 42), (⟨"SwitchTowerModel", "beginHeap", "()V"⟩, 42), (⟨"SwitchTowerModel", "toHeap", "(I)I"⟩, 42), (⟨"SwitchTowerModel", "findInHeap", "(I)I"⟩, 42)]
theorem lw_r3 : ∀ q ∈ lw_privs_3, lw_okq q := List.forall_mem_cons.mpr ⟨lw_p32, List.forall_mem_cons.mpr ⟨lw_p33, List.forall_mem_cons.mpr ⟨lw_p34, List.forall_mem_cons.mpr ⟨lw_p35, List.forall_mem_cons.mpr ⟨lw_p36, List.forall_mem_cons.mpr ⟨lw_p37, List.forall_mem_cons.mpr ⟨lw_p38, List.forall_mem_cons.mpr ⟨lw_p39, List.forall_mem_cons.mpr ⟨lw_p40, List.forall_mem_cons.mpr ⟨lw_p41, List.forall_mem_cons.mpr ⟨lw_p42, List.forall_mem_cons.mpr ⟨lw_p43, List.forall_mem_cons.mpr ⟨lw_p44, List.forall_mem_cons.mpr ⟨lw_p45, List.forall_mem_cons.mpr ⟨lw_p46, List.forall_mem_cons.mpr ⟨lw_p47, fun _ h => absurd h List.not_mem_nil⟩⟩⟩⟩⟩⟩⟩⟩⟩⟩⟩⟩⟩⟩⟩⟩
theorem lw_p48 : lw_okq (⟨"SwitchTowerModel", "grow", "()Z"⟩, 42) := ⟨⟨by decide +kernel, by decide +kernel⟩, List.mem_of_getElem? (i := 842) (by decide +kernel), List.mem_of_getElem? (i := 1127) (by decide +kernel), List.mem_of_getElem? (i := 1128) (by decide +kernel)⟩
theorem lw_p49 : lw_okq (⟨"SwitchTowerModel", "fromHeap", "(II)V"⟩, 42) := ⟨⟨by decide +kernel, by decide +kernel⟩, List.mem_of_getElem? (i := 842) (by decide +kernel), List.mem_of_getElem? (i := 1131) (by decide +kernel), List.mem_of_getElem? (i := 1132) (by decide +kernel)⟩
theorem lw_p50 : lw_okq (⟨"SwitchTowerModel", "partAll", "()I"⟩, 42) := ⟨⟨by decide +kernel, by decide +kernel⟩, List.mem_of_getElem? (i := 842) (by decide +kernel), List.mem_of_getElem? (i := 1135) (by decide +kernel), List.mem_of_getElem? (i := 1136) (by decide +kernel)⟩
theorem lw_p51 : lw_okq (⟨"SwitchTowerModel", "partOnce", "()I"⟩, 42) := ⟨⟨by decide +kernel, by decide +kernel⟩, List.mem_of_getElem? (i := 842) (by decide +kernel), List.mem_of_getElem? (i := 1139) (by decide +kernel), List.mem_of_getElem? (i := 1140) (by decide +kernel)⟩
theorem lw_p52 : lw_okq (⟨"SwitchTowerModel", "isSameNow", "(II)Z"⟩, 42) := ⟨⟨by decide +kernel, by decide +kernel⟩, List.mem_of_getElem? (i := 842) (by decide +kernel), List.mem_of_getElem? (i := 1143) (by decide +kernel), List.mem_of_getElem? (i := 1144) (by decide +kernel)⟩
theorem lw_p53 : lw_okq (⟨"SwitchTowerModel", "isParted", "(IIII)Z"⟩, 42) := ⟨⟨by decide +kernel, by decide +kernel⟩, List.mem_of_getElem? (i := 842) (by decide +kernel), List.mem_of_getElem? (i := 1151) (by decide +kernel), List.mem_of_getElem? (i := 1152) (by decide +kernel)⟩
theorem lw_p54 : lw_okq (⟨"SwitchTowerModel", "rowsOf", "(II)I"⟩, 42) := ⟨⟨by decide +kernel, by decide +kernel⟩, List.mem_of_getElem? (i := 842) (by decide +kernel), List.mem_of_getElem? (i := 1167) (by decide +kernel), List.mem_of_getElem? (i := 1168) (by decide +kernel)⟩
theorem lw_p55 : lw_okq (⟨"SwitchTowerModel", "isTokenBack", "(I)Z"⟩, 42) := ⟨⟨by decide +kernel, by decide +kernel⟩, List.mem_of_getElem? (i := 842) (by decide +kernel), List.mem_of_getElem? (i := 1171) (by decide +kernel), List.mem_of_getElem? (i := 1172) (by decide +kernel)⟩
theorem lw_p56 : lw_okq (⟨"SwitchTowerModel", "rowAt", "(II)V"⟩, 42) := ⟨⟨by decide +kernel, by decide +kernel⟩, List.mem_of_getElem? (i := 842) (by decide +kernel), List.mem_of_getElem? (i := 1175) (by decide +kernel), List.mem_of_getElem? (i := 1176) (by decide +kernel)⟩
theorem lw_p57 : lw_okq (⟨"SwitchTowerModel", "placeNow", "()I"⟩, 42) := ⟨⟨by decide +kernel, by decide +kernel⟩, List.mem_of_getElem? (i := 842) (by decide +kernel), List.mem_of_getElem? (i := 1179) (by decide +kernel), List.mem_of_getElem? (i := 1180) (by decide +kernel)⟩
theorem lw_p58 : lw_okq (⟨"SwitchTowerModel", "findLevel", "(I)V"⟩, 42) := ⟨⟨by decide +kernel, by decide +kernel⟩, List.mem_of_getElem? (i := 842) (by decide +kernel), List.mem_of_getElem? (i := 1191) (by decide +kernel), List.mem_of_getElem? (i := 1192) (by decide +kernel)⟩
theorem lw_p59 : lw_okq (⟨"SwitchTowerModel", "takeLevel", "(I)I"⟩, 42) := ⟨⟨by decide +kernel, by decide +kernel⟩, List.mem_of_getElem? (i := 842) (by decide +kernel), List.mem_of_getElem? (i := 1200) (by decide +kernel), List.mem_of_getElem? (i := 1201) (by decide +kernel)⟩
theorem lw_p60 : lw_okq (⟨"SwitchTowerModel", "findFar", "(I)V"⟩, 42) := ⟨⟨by decide +kernel, by decide +kernel⟩, List.mem_of_getElem? (i := 842) (by decide +kernel), List.mem_of_getElem? (i := 1204) (by decide +kernel), List.mem_of_getElem? (i := 1205) (by decide +kernel)⟩
theorem lw_p61 : lw_okq (⟨"SwitchTowerModel", "takeRows", "(II)I"⟩, 42) := ⟨⟨by decide +kernel, by decide +kernel⟩, List.mem_of_getElem? (i := 842) (by decide +kernel), List.mem_of_getElem? (i := 1212) (by decide +kernel), List.mem_of_getElem? (i := 1213) (by decide +kernel)⟩
theorem lw_p62 : lw_okq (⟨"SwitchTowerModel", "findFarTo", "(I)V"⟩, 42) := ⟨⟨by decide +kernel, by decide +kernel⟩, List.mem_of_getElem? (i := 842) (by decide +kernel), List.mem_of_getElem? (i := 1221) (by decide +kernel), List.mem_of_getElem? (i := 1222) (by decide +kernel)⟩
theorem lw_p63 : lw_okq (⟨"SwitchTowerModel", "toGroup", "(J)Z"⟩, 42) := ⟨⟨by decide +kernel, by decide +kernel⟩, List.mem_of_getElem? (i := 842) (by decide +kernel), List.mem_of_getElem? (i := 1234) (by decide +kernel), List.mem_of_getElem? (i := 1235) (by decide +kernel)⟩
def lw_privs_4 : List (MethodName × Nat) := [(⟨"SwitchTowerModel", "grow", "()Z"⟩, 42), (⟨"SwitchTowerModel", "fromHeap", "(II)V"⟩, 42), (⟨"SwitchTowerModel", "partAll", "()I"⟩, 42), (⟨"SwitchTowerModel", "partOnce", "()I"⟩, 42), (⟨"SwitchTowerModel", "isSameNow", "(II)Z"⟩, 42), (⟨"SwitchTowerModel", "isParted", "(IIII)Z"⟩, 42), (⟨"SwitchTowerModel", "rowsOf", "(II)I"⟩, 42), (⟨"SwitchTowerModel", "isTokenBack", "(I)Z"⟩, 42), (⟨"SwitchTowerModel", "rowAt", "(II)V"⟩, 42), (⟨"SwitchTowerModel", "placeNow", "()I"⟩, 42), (⟨"SwitchTowerModel", "findLevel", "(I)V"⟩, 42), (⟨"SwitchTowerModel", "takeLevel", "(I)I"⟩, 42), (⟨"SwitchTowerModel", "findFar", "(I)V"⟩, 42), (⟨"SwitchTowerModel", "takeRows", "(II)I"⟩, 42), (⟨"SwitchTowerModel", "findFarTo", "(I)V"⟩, 42), (⟨"SwitchTowerModel", "toGroup", "(J)Z"⟩, 42)]
theorem lw_r4 : ∀ q ∈ lw_privs_4, lw_okq q := List.forall_mem_cons.mpr ⟨lw_p48, List.forall_mem_cons.mpr ⟨lw_p49, List.forall_mem_cons.mpr ⟨lw_p50, List.forall_mem_cons.mpr ⟨lw_p51, List.forall_mem_cons.mpr ⟨lw_p52, List.forall_mem_cons.mpr ⟨lw_p53, List.forall_mem_cons.mpr ⟨lw_p54, List.forall_mem_cons.mpr ⟨lw_p55, List.forall_mem_cons.mpr ⟨lw_p56, List.forall_mem_cons.mpr ⟨lw_p57, List.forall_mem_cons.mpr ⟨lw_p58, List.forall_mem_cons.mpr ⟨lw_p59, List.forall_mem_cons.mpr ⟨lw_p60, List.forall_mem_cons.mpr ⟨lw_p61, List.forall_mem_cons.mpr ⟨lw_p62, List.forall_mem_cons.mpr ⟨lw_p63, fun _ h => absurd h List.not_mem_nil⟩⟩⟩⟩⟩⟩⟩⟩⟩⟩⟩⟩⟩⟩⟩⟩
theorem lw_p64 : lw_okq (⟨"SwitchTowerModel", "made", "(JI)J"⟩, 42) := ⟨⟨by decide +kernel, by decide +kernel⟩, List.mem_of_getElem? (i := 842) (by decide +kernel), List.mem_of_getElem? (i := 1239) (by decide +kernel), List.mem_of_getElem? (i := 1240) (by decide +kernel)⟩
theorem lw_p65 : lw_okq (⟨"SwitchTowerModel", "takeShort", "(I)I"⟩, 42) := ⟨⟨by decide +kernel, by decide +kernel⟩, List.mem_of_getElem? (i := 842) (by decide +kernel), List.mem_of_getElem? (i := 1248) (by decide +kernel), List.mem_of_getElem? (i := 1249) (by decide +kernel)⟩
theorem lw_p66 : lw_okq (⟨"SwitchTowerModel", "findLaw", "(I)I"⟩, 42) := ⟨⟨by decide +kernel, by decide +kernel⟩, List.mem_of_getElem? (i := 842) (by decide +kernel), List.mem_of_getElem? (i := 1257) (by decide +kernel), List.mem_of_getElem? (i := 1258) (by decide +kernel)⟩
theorem lw_p67 : lw_okq (⟨"SwitchTowerModel", "beginFall", "()Z"⟩, 42) := ⟨⟨by decide +kernel, by decide +kernel⟩, List.mem_of_getElem? (i := 842) (by decide +kernel), List.mem_of_getElem? (i := 1269) (by decide +kernel), List.mem_of_getElem? (i := 1270) (by decide +kernel)⟩
theorem lw_p68 : lw_okq (⟨"SwitchTowerModel", "fallsAll", "(I)Z"⟩, 42) := ⟨⟨by decide +kernel, by decide +kernel⟩, List.mem_of_getElem? (i := 842) (by decide +kernel), List.mem_of_getElem? (i := 1273) (by decide +kernel), List.mem_of_getElem? (i := 1274) (by decide +kernel)⟩
theorem lw_p69 : lw_okq (⟨"SwitchTowerModel", "falls", "(I)Z"⟩, 42) := ⟨⟨by decide +kernel, by decide +kernel⟩, List.mem_of_getElem? (i := 842) (by decide +kernel), List.mem_of_getElem? (i := 1277) (by decide +kernel), List.mem_of_getElem? (i := 1278) (by decide +kernel)⟩
def lw_privs_5 : List (MethodName × Nat) := [(⟨"SwitchTowerModel", "made", "(JI)J"⟩, 42), (⟨"SwitchTowerModel", "takeShort", "(I)I"⟩, 42), (⟨"SwitchTowerModel", "findLaw", "(I)I"⟩, 42), (⟨"SwitchTowerModel", "beginFall", "()Z"⟩, 42), (⟨"SwitchTowerModel", "fallsAll", "(I)Z"⟩, 42), (⟨"SwitchTowerModel", "falls", "(I)Z"⟩, 42)]
theorem lw_r5 : ∀ q ∈ lw_privs_5, lw_okq q := List.forall_mem_cons.mpr ⟨lw_p64, List.forall_mem_cons.mpr ⟨lw_p65, List.forall_mem_cons.mpr ⟨lw_p66, List.forall_mem_cons.mpr ⟨lw_p67, List.forall_mem_cons.mpr ⟨lw_p68, List.forall_mem_cons.mpr ⟨lw_p69, fun _ h => absurd h List.not_mem_nil⟩⟩⟩⟩⟩⟩
def lw_privs : List (MethodName × Nat) := lw_privs_1 ++ (lw_privs_2 ++ (lw_privs_3 ++ (lw_privs_4 ++ (lw_privs_5))))
def lw_tbl : List Cond := k2_sels lw_privs ++ tables_1
theorem lw_privs_ok : ∀ q ∈ lw_privs, lw_okq q := by
  show ∀ q ∈ lw_privs_1 ++ (lw_privs_2 ++ (lw_privs_3 ++ (lw_privs_4 ++ (lw_privs_5)))), lw_okq q
  exact List.forall_mem_append.mpr ⟨lw_r1, List.forall_mem_append.mpr ⟨lw_r2, List.forall_mem_append.mpr ⟨lw_r3, List.forall_mem_append.mpr ⟨lw_r4, lw_r5⟩⟩⟩⟩
end
section
def RX0 : String := "SwitchTower$KeyTable"
def TX0 : u_T := fun k => match k with
  | 0 => ("SwitchTower$KeyTable", "keys", "[J", true)
  | 1 => ("SwitchTower$KeyTable", "tails", "[I", true)
  | 2 => ("SwitchTower$KeyTable", "slots", "[I", true)
  | 3 => ("SwitchTower$KeyTable", "count", "I", false)
  | _ => ("SwitchTower$KeyTable", "stamp", "I", false)
def tyX0 : Nat → FieldType := fun k => match k with
  | 0 => .array .long
  | 1 => .array .int
  | 2 => .array .int
  | 3 => .int
  | _ => .int
theorem nmX0 : ∀ a, a < 5 → ∀ b, b < 5 → a ≠ b → (TX0 a).2.1 ≠ (TX0 b).2.1 := by decide +kernel
theorem tyX0_ok : ∀ k, k < 5 → parseFieldDescriptor (TX0 k).2.2.1 = some (tyX0 k) := by decide +kernel
abbrev cX0_init : ByteArray := prog_2_method_1_code
def yX0_init : MethodName := ⟨RX0, "<init>", "(II)V"⟩
abbrev cX0_clear : ByteArray := prog_2_method_2_code
def yX0_clear : MethodName := ⟨RX0, "clear", "()V"⟩
abbrev cX0_find : ByteArray := prog_2_method_3_code
def yX0_find : MethodName := ⟨RX0, "find", "(JI)I"⟩
abbrev cX0_add : ByteArray := prog_2_method_4_code
def yX0_add : MethodName := ⟨RX0, "add", "(JI)I"⟩
abbrev cX0_slotOf : ByteArray := prog_2_method_5_code
def yX0_slotOf : MethodName := ⟨RX0, "slotOf", "(JI)I"⟩
def RX1 : String := "SwitchTower$LevelGroup"
def TX1 : u_T := fun k => match k with
  | 0 => ("SwitchTower$LevelGroup", "members", "LSwitchTower$KeyTable;", true)
  | 1 => ("SwitchTower$LevelGroup", "generators", "[J", true)
  | 2 => ("SwitchTower$LevelGroup", "generatorCount", "I", false)
  | _ => ("SwitchTower$LevelGroup", "points", "I", false)
def tyX1 : Nat → FieldType := fun k => match k with
  | 0 => .object "SwitchTower$KeyTable"
  | 1 => .array .long
  | 2 => .int
  | _ => .int
theorem nmX1 : ∀ a, a < 4 → ∀ b, b < 4 → a ≠ b → (TX1 a).2.1 ≠ (TX1 b).2.1 := by decide +kernel
theorem tyX1_ok : ∀ k, k < 4 → parseFieldDescriptor (TX1 k).2.2.1 = some (tyX1 k) := by decide +kernel
abbrev cX1_init : ByteArray := prog_3_method_1_code
def yX1_init : MethodName := ⟨RX1, "<init>", "()V"⟩
abbrev cX1_begin : ByteArray := prog_3_method_2_code
def yX1_begin : MethodName := ⟨RX1, "begin", "(I)V"⟩
abbrev cX1_bringIn : ByteArray := prog_3_method_3_code
def yX1_bringIn : MethodName := ⟨RX1, "bringIn", "(J)Z"⟩
abbrev cX1_addBlock : ByteArray := prog_3_method_4_code
def yX1_addBlock : MethodName := ⟨RX1, "addBlock", "(IJ)Z"⟩
abbrev cX1_behind : ByteArray := prog_3_method_5_code
def yX1_behind : MethodName := ⟨RX1, "behind", "(JJ)J"⟩
def RX2 : String := "SwitchTower$Levels"
def TX2 : u_T := fun k => match k with
  | 0 => ("SwitchTower$Levels", "table", "[I", true)
  | 1 => ("SwitchTower$Levels", "width", "[I", true)
  | 2 => ("SwitchTower$Levels", "start", "[I", true)
  | 3 => ("SwitchTower$Levels", "distance", "[I", true)
  | 4 => ("SwitchTower$Levels", "queue", "[I", true)
  | 5 => ("SwitchTower$Levels", "cameFrom", "[I", true)
  | 6 => ("SwitchTower$Levels", "cameBy", "[I", true)
  | _ => ("SwitchTower$Levels", "built", "I", false)
def tyX2 : Nat → FieldType := fun k => match k with
  | 0 => .array .int
  | 1 => .array .int
  | 2 => .array .int
  | 3 => .array .int
  | 4 => .array .int
  | 5 => .array .int
  | 6 => .array .int
  | _ => .int
theorem nmX2 : ∀ a, a < 8 → ∀ b, b < 8 → a ≠ b → (TX2 a).2.1 ≠ (TX2 b).2.1 := by decide +kernel
theorem tyX2_ok : ∀ k, k < 8 → parseFieldDescriptor (TX2 k).2.2.1 = some (tyX2 k) := by decide +kernel
abbrev cX2_init : ByteArray := prog_4_method_1_code
def yX2_init : MethodName := ⟨RX2, "<init>", "()V"⟩
abbrev cX2_forget : ByteArray := prog_4_method_2_code
def yX2_forget : MethodName := ⟨RX2, "forget", "()V"⟩
abbrev cX2_forgetRows : ByteArray := prog_4_method_3_code
def yX2_forgetRows : MethodName := ⟨RX2, "forgetRows", "()V"⟩
abbrev cX2_build : ByteArray := prog_4_method_4_code
def yX2_build : MethodName := ⟨RX2, "build", "(LSwitchTower$Machine;I)V"⟩
abbrev cX2_buildBranch : ByteArray := prog_4_method_5_code
def yX2_buildBranch : MethodName := ⟨RX2, "buildBranch", "(LSwitchTower$Machine;III)V"⟩
abbrev cX2_spread : ByteArray := prog_4_method_6_code
def yX2_spread : MethodName := ⟨RX2, "spread", "(LSwitchTower$Machine;IIZ)I"⟩
abbrev cX2_countBackOrbits : ByteArray := prog_4_method_7_code
def yX2_countBackOrbits : MethodName := ⟨RX2, "countBackOrbits", "(LSwitchTower$Machine;I)I"⟩
abbrev cX2_markOfMove : ByteArray := prog_4_method_8_code
def yX2_markOfMove : MethodName := ⟨RX2, "markOfMove", "(III)I"⟩
abbrev cX2_roundsToRest : ByteArray := prog_4_method_9_code
def yX2_roundsToRest : MethodName := ⟨RX2, "roundsToRest", "(LSwitchTower$Word;I)I"⟩
abbrev cX2_ringLength : ByteArray := prog_4_method_10_code
def yX2_ringLength : MethodName := ⟨RX2, "ringLength", "(LSwitchTower$Word;II)I"⟩
abbrev cX2_commonDivisor : ByteArray := prog_4_method_11_code
def yX2_commonDivisor : MethodName := ⟨RX2, "commonDivisor", "(JJ)J"⟩
abbrev cX2_packed : ByteArray := prog_4_method_12_code
def yX2_packed : MethodName := ⟨RX2, "packed", "(II)J"⟩
def RX3 : String := "SwitchTower$Machine"
def TX3 : u_T := fun k => match k with
  | 0 => ("SwitchTower$Machine", "writes", "[I", true)
  | 1 => ("SwitchTower$Machine", "goes", "[I", true)
  | 2 => ("SwitchTower$Machine", "markWrites", "[I", true)
  | 3 => ("SwitchTower$Machine", "markGoes", "[I", true)
  | 4 => ("SwitchTower$Machine", "marks", "[I", true)
  | 5 => ("SwitchTower$Machine", "markCount", "I", false)
  | 6 => ("SwitchTower$Machine", "letters", "I", false)
  | 7 => ("SwitchTower$Machine", "states", "I", false)
  | 8 => ("SwitchTower$Machine", "backs", "I", false)
  | _ => ("SwitchTower$Machine", "whole", "Z", false)
def tyX3 : Nat → FieldType := fun k => match k with
  | 0 => .array .int
  | 1 => .array .int
  | 2 => .array .int
  | 3 => .array .int
  | 4 => .array .int
  | 5 => .int
  | 6 => .int
  | 7 => .int
  | 8 => .int
  | _ => .boolean
theorem nmX3 : ∀ a, a < 10 → ∀ b, b < 10 → a ≠ b → (TX3 a).2.1 ≠ (TX3 b).2.1 := by decide +kernel
theorem tyX3_ok : ∀ k, k < 10 → parseFieldDescriptor (TX3 k).2.2.1 = some (tyX3 k) := by decide +kernel
abbrev cX3_init : ByteArray := prog_5_method_1_code
def yX3_init : MethodName := ⟨RX3, "<init>", "()V"⟩
abbrev cX3_restart : ByteArray := prog_5_method_2_code
def yX3_restart : MethodName := ⟨RX3, "restart", "(I)V"⟩
abbrev cX3_isState : ByteArray := prog_5_method_3_code
def yX3_isState : MethodName := ⟨RX3, "isState", "(I)Z"⟩
abbrev cX3_isLetter : ByteArray := prog_5_method_4_code
def yX3_isLetter : MethodName := ⟨RX3, "isLetter", "(I)Z"⟩
abbrev cX3_isBack : ByteArray := prog_5_method_5_code
def yX3_isBack : MethodName := ⟨RX3, "isBack", "(I)Z"⟩
abbrev cX3_canRead : ByteArray := prog_5_method_6_code
def yX3_canRead : MethodName := ⟨RX3, "canRead", "(LSwitchTower$Sheet;I)Z"⟩
abbrev cX3_read : ByteArray := prog_5_method_7_code
def yX3_read : MethodName := ⟨RX3, "read", "(LSwitchTower$Sheet;I)V"⟩
abbrev cX3_rewire : ByteArray := prog_5_method_8_code
def yX3_rewire : MethodName := ⟨RX3, "rewire", "(IIII)V"⟩
abbrev cX3_refresh : ByteArray := prog_5_method_9_code
def yX3_refresh : MethodName := ⟨RX3, "refresh", "()V"⟩
abbrev cX3_goals : ByteArray := prog_5_method_10_code
def yX3_goals : MethodName := ⟨RX3, "goals", "(I)I"⟩
abbrev cX3_writesUnlike : ByteArray := prog_5_method_11_code
def yX3_writesUnlike : MethodName := ⟨RX3, "writesUnlike", "(I)Z"⟩
abbrev cX3_listMarks : ByteArray := prog_5_method_12_code
def yX3_listMarks : MethodName := ⟨RX3, "listMarks", "()V"⟩
abbrev cX3_wireMarks : ByteArray := prog_5_method_13_code
def yX3_wireMarks : MethodName := ⟨RX3, "wireMarks", "(II)V"⟩
abbrev cX3_rowLength : ByteArray := prog_5_method_14_code
def yX3_rowLength : MethodName := ⟨RX3, "rowLength", "(I)I"⟩
abbrev cX3_hasLetters : ByteArray := prog_5_method_15_code
def yX3_hasLetters : MethodName := ⟨RX3, "hasLetters", "(II)Z"⟩
abbrev cX3_rowIndex : ByteArray := prog_5_method_16_code
def yX3_rowIndex : MethodName := ⟨RX3, "rowIndex", "(II)I"⟩
abbrev cX3_power : ByteArray := prog_5_method_17_code
def yX3_power : MethodName := ⟨RX3, "power", "(II)I"⟩
def RX4 : String := "SwitchTower$Pool"
def TX4 : u_T := fun k => match k with
  | 0 => ("SwitchTower$Pool", "words", "LSwitchTower$KeyTable;", true)
  | 1 => ("SwitchTower$Pool", "signs", "LSwitchTower$KeyTable;", true)
  | 2 => ("SwitchTower$Pool", "parts", "[I", true)
  | 3 => ("SwitchTower$Pool", "writings", "[I", true)
  | 4 => ("SwitchTower$Pool", "kindOf", "[I", true)
  | 5 => ("SwitchTower$Pool", "nextKindOf", "[I", true)
  | 6 => ("SwitchTower$Pool", "rounds", "[I", true)
  | 7 => ("SwitchTower$Pool", "scratch", "LSwitchTower$Word;", true)
  | 8 => ("SwitchTower$Pool", "letters", "I", false)
  | 9 => ("SwitchTower$Pool", "followed", "I", false)
  | 10 => ("SwitchTower$Pool", "classified", "I", false)
  | 11 => ("SwitchTower$Pool", "kinds", "I", false)
  | _ => ("SwitchTower$Pool", "roundCount", "I", false)
def tyX4 : Nat → FieldType := fun k => match k with
  | 0 => .object "SwitchTower$KeyTable"
  | 1 => .object "SwitchTower$KeyTable"
  | 2 => .array .int
  | 3 => .array .int
  | 4 => .array .int
  | 5 => .array .int
  | 6 => .array .int
  | 7 => .object "SwitchTower$Word"
  | 8 => .int
  | 9 => .int
  | 10 => .int
  | 11 => .int
  | _ => .int
theorem nmX4 : ∀ a, a < 13 → ∀ b, b < 13 → a ≠ b → (TX4 a).2.1 ≠ (TX4 b).2.1 := by decide +kernel
theorem tyX4_ok : ∀ k, k < 13 → parseFieldDescriptor (TX4 k).2.2.1 = some (tyX4 k) := by decide +kernel
abbrev cX4_init : ByteArray := prog_6_method_1_code
def yX4_init : MethodName := ⟨RX4, "<init>", "()V"⟩
abbrev cX4_reset : ByteArray := prog_6_method_2_code
def yX4_reset : MethodName := ⟨RX4, "reset", "()V"⟩
abbrev cX4_indexOf : ByteArray := prog_6_method_3_code
def yX4_indexOf : MethodName := ⟨RX4, "indexOf", "(LSwitchTower$Word;)I"⟩
abbrev cX4_load : ByteArray := prog_6_method_4_code
def yX4_load : MethodName := ⟨RX4, "load", "(ILSwitchTower$Word;)V"⟩
abbrev cX4_enter : ByteArray := prog_6_method_5_code
def yX4_enter : MethodName := ⟨RX4, "enter", "(LSwitchTower$Word;)I"⟩
abbrev cX4_take : ByteArray := prog_6_method_6_code
def yX4_take : MethodName := ⟨RX4, "take", "(LSwitchTower$Machine;LSwitchTower$Word;)I"⟩
abbrev cX4_followParts : ByteArray := prog_6_method_7_code
def yX4_followParts : MethodName := ⟨RX4, "followParts", "(LSwitchTower$Machine;)Z"⟩
abbrev cX4_classify : ByteArray := prog_6_method_8_code
def yX4_classify : MethodName := ⟨RX4, "classify", "()V"⟩
abbrev cX4_refine : ByteArray := prog_6_method_9_code
def yX4_refine : MethodName := ⟨RX4, "refine", "()V"⟩
abbrev cX4_keepRound : ByteArray := prog_6_method_10_code
def yX4_keepRound : MethodName := ⟨RX4, "keepRound", "()V"⟩
abbrev cX4_areAlike : ByteArray := prog_6_method_11_code
def yX4_areAlike : MethodName := ⟨RX4, "areAlike", "(II)Z"⟩
abbrev cX4_arePartedBy : ByteArray := prog_6_method_12_code
def yX4_arePartedBy : MethodName := ⟨RX4, "arePartedBy", "(III)Z"⟩
abbrev cX4_partingRow : ByteArray := prog_6_method_13_code
def yX4_partingRow : MethodName := ⟨RX4, "partingRow", "(II)I"⟩
abbrev cX4_firstPartingLetter : ByteArray := prog_6_method_14_code
def yX4_firstPartingLetter : MethodName := ⟨RX4, "firstPartingLetter", "(III)I"⟩
abbrev cX4_firstUnlikeLetter : ByteArray := prog_6_method_15_code
def yX4_firstUnlikeLetter : MethodName := ⟨RX4, "firstUnlikeLetter", "(I)I"⟩
def RX5 : String := "SwitchTower$Sheet"
def TX5 : u_T := fun k => match k with
  | 0 => ("SwitchTower$Sheet", "numbers", "[I", true)
  | 1 => ("SwitchTower$Sheet", "there", "Z", false)
  | 2 => ("SwitchTower$Sheet", "kind", "I", false)
  | _ => ("SwitchTower$Sheet", "count", "I", false)
def tyX5 : Nat → FieldType := fun k => match k with
  | 0 => .array .int
  | 1 => .boolean
  | 2 => .int
  | _ => .int
theorem nmX5 : ∀ a, a < 4 → ∀ b, b < 4 → a ≠ b → (TX5 a).2.1 ≠ (TX5 b).2.1 := by decide +kernel
theorem tyX5_ok : ∀ k, k < 4 → parseFieldDescriptor (TX5 k).2.2.1 = some (tyX5 k) := by decide +kernel
abbrev cX5_init : ByteArray := prog_7_method_1_code
def yX5_init : MethodName := ⟨RX5, "<init>", "()V"⟩
abbrev cX5_lay : ByteArray := prog_7_method_2_code
def yX5_lay : MethodName := ⟨RX5, "lay", "(II)V"⟩
abbrev cX5_hasNumber : ByteArray := prog_7_method_3_code
def yX5_hasNumber : MethodName := ⟨RX5, "hasNumber", "(I)Z"⟩
abbrev cX5_hasPair : ByteArray := prog_7_method_4_code
def yX5_hasPair : MethodName := ⟨RX5, "hasPair", "(II)Z"⟩
abbrev cX5_write : ByteArray := prog_7_method_5_code
def yX5_write : MethodName := ⟨RX5, "write", "(II)V"⟩
def RX6 : String := "SwitchTower$ShortWords"
def TX6 : u_T := fun k => match k with
  | 0 => ("SwitchTower$ShortWords", "pool", "LSwitchTower$Pool;", true)
  | 1 => ("SwitchTower$ShortWords", "word", "LSwitchTower$Word;", true)
  | 2 => ("SwitchTower$ShortWords", "part", "LSwitchTower$Word;", true)
  | 3 => ("SwitchTower$ShortWords", "fallenWords", "[I", true)
  | 4 => ("SwitchTower$ShortWords", "looked", "[I", true)
  | 5 => ("SwitchTower$ShortWords", "hasKind", "[I", true)
  | 6 => ("SwitchTower$ShortWords", "fallenCount", "I", false)
  | 7 => ("SwitchTower$ShortWords", "lookedCount", "I", false)
  | 8 => ("SwitchTower$ShortWords", "asked", "I", false)
  | _ => ("SwitchTower$ShortWords", "fits", "Z", false)
def tyX6 : Nat → FieldType := fun k => match k with
  | 0 => .object "SwitchTower$Pool"
  | 1 => .object "SwitchTower$Word"
  | 2 => .object "SwitchTower$Word"
  | 3 => .array .int
  | 4 => .array .int
  | 5 => .array .int
  | 6 => .int
  | 7 => .int
  | 8 => .int
  | _ => .boolean
theorem nmX6 : ∀ a, a < 10 → ∀ b, b < 10 → a ≠ b → (TX6 a).2.1 ≠ (TX6 b).2.1 := by decide +kernel
theorem tyX6_ok : ∀ k, k < 10 → parseFieldDescriptor (TX6 k).2.2.1 = some (tyX6 k) := by decide +kernel
abbrev cX6_init : ByteArray := prog_8_method_1_code
def yX6_init : MethodName := ⟨RX6, "<init>", "()V"⟩
abbrev cX6_forget : ByteArray := prog_8_method_2_code
def yX6_forget : MethodName := ⟨RX6, "forget", "()V"⟩
abbrev cX6_gatherWithin : ByteArray := prog_8_method_3_code
def yX6_gatherWithin : MethodName := ⟨RX6, "gatherWithin", "(LSwitchTower$Machine;I)I"⟩
abbrev cX6_enterWithin : ByteArray := prog_8_method_4_code
def yX6_enterWithin : MethodName := ⟨RX6, "enterWithin", "(LSwitchTower$Machine;I)Z"⟩
abbrev cX6_beginWithEmpty : ByteArray := prog_8_method_5_code
def yX6_beginWithEmpty : MethodName := ⟨RX6, "beginWithEmpty", "()V"⟩
abbrev cX6_extend : ByteArray := prog_8_method_6_code
def yX6_extend : MethodName := ⟨RX6, "extend", "(LSwitchTower$Machine;I)Z"⟩
abbrev cX6_isLaw : ByteArray := prog_8_method_7_code
def yX6_isLaw : MethodName := ⟨RX6, "isLaw", "(I)Z"⟩
abbrev cX6_countLaws : ByteArray := prog_8_method_8_code
def yX6_countLaws : MethodName := ⟨RX6, "countLaws", "()I"⟩
abbrev cX6_findLaw : ByteArray := prog_8_method_9_code
def yX6_findLaw : MethodName := ⟨RX6, "findLaw", "(I)I"⟩
abbrev cX6_gatherFallen : ByteArray := prog_8_method_10_code
def yX6_gatherFallen : MethodName := ⟨RX6, "gatherFallen", "(LSwitchTower$Machine;I)I"⟩
abbrev cX6_lookAtParts : ByteArray := prog_8_method_11_code
def yX6_lookAtParts : MethodName := ⟨RX6, "lookAtParts", "(LSwitchTower$Machine;II)Z"⟩
abbrev cX6_addUnlike : ByteArray := prog_8_method_12_code
def yX6_addUnlike : MethodName := ⟨RX6, "addUnlike", "()Z"⟩
def RX7 : String := "SwitchTower$Word"
def TX7 : u_T := fun k => match k with
  | 0 => ("SwitchTower$Word", "marks", "J", false)
  | _ => ("SwitchTower$Word", "length", "I", false)
def tyX7 : Nat → FieldType := fun k => match k with
  | 0 => .long
  | _ => .int
theorem nmX7 : ∀ a, a < 2 → ∀ b, b < 2 → a ≠ b → (TX7 a).2.1 ≠ (TX7 b).2.1 := by decide +kernel
theorem tyX7_ok : ∀ k, k < 2 → parseFieldDescriptor (TX7 k).2.2.1 = some (tyX7 k) := by decide +kernel
abbrev cX7_init : ByteArray := prog_9_method_1_code
def yX7_init : MethodName := ⟨RX7, "<init>", "()V"⟩
abbrev cX7_empty : ByteArray := prog_9_method_2_code
def yX7_empty : MethodName := ⟨RX7, "empty", "()V"⟩
abbrev cX7_copy : ByteArray := prog_9_method_3_code
def yX7_copy : MethodName := ⟨RX7, "copy", "(LSwitchTower$Word;)V"⟩
abbrev cX7_mark : ByteArray := prog_9_method_4_code
def yX7_mark : MethodName := ⟨RX7, "mark", "(I)I"⟩
abbrev cX7_push : ByteArray := prog_9_method_5_code
def yX7_push : MethodName := ⟨RX7, "push", "(I)Z"⟩
abbrev cX7_descend : ByteArray := prog_9_method_6_code
def yX7_descend : MethodName := ⟨RX7, "descend", "(LSwitchTower$Machine;I)I"⟩
def RX8 : String := "SwitchTower"
def TX8 : u_T := fun k => match k with
  | 0 => ("SwitchTower", "sheets", "[LSwitchTower$Sheet;", true)
  | 1 => ("SwitchTower", "spots", "[LSwitchTower$Word;", true)
  | 2 => ("SwitchTower", "given", "[I", true)
  | 3 => ("SwitchTower", "scratch", "LSwitchTower$Word;", true)
  | 4 => ("SwitchTower", "machine", "LSwitchTower$Machine;", true)
  | 5 => ("SwitchTower", "levels", "LSwitchTower$Levels;", true)
  | 6 => ("SwitchTower", "levelGroup", "LSwitchTower$LevelGroup;", true)
  | 7 => ("SwitchTower", "pool", "LSwitchTower$Pool;", true)
  | _ => ("SwitchTower", "shortWords", "LSwitchTower$ShortWords;", true)
def tyX8 : Nat → FieldType := fun k => match k with
  | 0 => .array (.object "SwitchTower$Sheet")
  | 1 => .array (.object "SwitchTower$Word")
  | 2 => .array .int
  | 3 => .object "SwitchTower$Word"
  | 4 => .object "SwitchTower$Machine"
  | 5 => .object "SwitchTower$Levels"
  | 6 => .object "SwitchTower$LevelGroup"
  | 7 => .object "SwitchTower$Pool"
  | _ => .object "SwitchTower$ShortWords"
theorem nmX8 : ∀ a, a < 9 → ∀ b, b < 9 → a ≠ b → (TX8 a).2.1 ≠ (TX8 b).2.1 := by decide +kernel
theorem tyX8_ok : ∀ k, k < 9 → parseFieldDescriptor (TX8 k).2.2.1 = some (tyX8 k) := by decide +kernel
abbrev cX8_init : ByteArray := prog_1_method_1_code
def yX8_init : MethodName := ⟨RX8, "<init>", "()V"⟩
abbrev cX8_sheet : ByteArray := prog_1_method_2_code
def yX8_sheet : MethodName := ⟨RX8, "sheet", "(III)I"⟩
abbrev cX8_cell : ByteArray := prog_1_method_3_code
def yX8_cell : MethodName := ⟨RX8, "cell", "(III)I"⟩
abbrev cX8_told : ByteArray := prog_1_method_4_code
def yX8_told : MethodName := ⟨RX8, "told", "(II)I"⟩
abbrev cX8_lose : ByteArray := prog_1_method_5_code
def yX8_lose : MethodName := ⟨RX8, "lose", "(I)I"⟩
abbrev cX8_letters : ByteArray := prog_1_method_6_code
def yX8_letters : MethodName := ⟨RX8, "letters", "(I)I"⟩
abbrev cX8_state : ByteArray := prog_1_method_7_code
def yX8_state : MethodName := ⟨RX8, "state", "(II)I"⟩
abbrev cX8_change : ByteArray := prog_1_method_8_code
def yX8_change : MethodName := ⟨RX8, "change", "(IIII)I"⟩
abbrev cX8_of : ByteArray := prog_1_method_9_code
def yX8_of : MethodName := ⟨RX8, "of", "(III)I"⟩
abbrev cX8_many : ByteArray := prog_1_method_10_code
def yX8_many : MethodName := ⟨RX8, "many", "(I)I"⟩
abbrev cX8_put : ByteArray := prog_1_method_11_code
def yX8_put : MethodName := ⟨RX8, "put", "(IIIII)I"⟩
abbrev cX8_wipe : ByteArray := prog_1_method_12_code
def yX8_wipe : MethodName := ⟨RX8, "wipe", "(I)I"⟩
abbrev cX8_size : ByteArray := prog_1_method_13_code
def yX8_size : MethodName := ⟨RX8, "size", "(I)I"⟩
abbrev cX8_token : ByteArray := prog_1_method_14_code
def yX8_token : MethodName := ⟨RX8, "token", "(II)I"⟩
abbrev cX8_times : ByteArray := prog_1_method_15_code
def yX8_times : MethodName := ⟨RX8, "times", "(III)I"⟩
abbrev cX8_turn : ByteArray := prog_1_method_16_code
def yX8_turn : MethodName := ⟨RX8, "turn", "(II)I"⟩
abbrev cX8_act : ByteArray := prog_1_method_17_code
def yX8_act : MethodName := ⟨RX8, "act", "(II)I"⟩
abbrev cX8_part : ByteArray := prog_1_method_18_code
def yX8_part : MethodName := ⟨RX8, "part", "(III)I"⟩
abbrev cX8_same : ByteArray := prog_1_method_19_code
def yX8_same : MethodName := ⟨RX8, "same", "(II)I"⟩
abbrev cX8_apart : ByteArray := prog_1_method_20_code
def yX8_apart : MethodName := ⟨RX8, "apart", "(II)I"⟩
abbrev cX8_heap : ByteArray := prog_1_method_21_code
def yX8_heap : MethodName := ⟨RX8, "heap", "(I)I"⟩
abbrev cX8_least : ByteArray := prog_1_method_22_code
def yX8_least : MethodName := ⟨RX8, "least", "(I)I"⟩
abbrev cX8_order : ByteArray := prog_1_method_23_code
def yX8_order : MethodName := ⟨RX8, "order", "(II)I"⟩
abbrev cX8_orbits : ByteArray := prog_1_method_24_code
def yX8_orbits : MethodName := ⟨RX8, "orbits", "(I)I"⟩
abbrev cX8_orbit : ByteArray := prog_1_method_25_code
def yX8_orbit : MethodName := ⟨RX8, "orbit", "(I)I"⟩
abbrev cX8_far : ByteArray := prog_1_method_26_code
def yX8_far : MethodName := ⟨RX8, "far", "(II)I"⟩
abbrev cX8_way : ByteArray := prog_1_method_27_code
def yX8_way : MethodName := ⟨RX8, "way", "(III)I"⟩
abbrev cX8_reach : ByteArray := prog_1_method_28_code
def yX8_reach : MethodName := ⟨RX8, "reach", "(I)I"⟩
abbrev cX8_group : ByteArray := prog_1_method_29_code
def yX8_group : MethodName := ⟨RX8, "group", "(I)I"⟩
abbrev cX8_growth : ByteArray := prog_1_method_30_code
def yX8_growth : MethodName := ⟨RX8, "growth", "(I)I"⟩
abbrev cX8_laws : ByteArray := prog_1_method_31_code
def yX8_laws : MethodName := ⟨RX8, "laws", "(I)I"⟩
abbrev cX8_law : ByteArray := prog_1_method_32_code
def yX8_law : MethodName := ⟨RX8, "law", "(III)I"⟩
abbrev cX8_fall : ByteArray := prog_1_method_33_code
def yX8_fall : MethodName := ⟨RX8, "fall", "(I)I"⟩
abbrev cX8_fallen : ByteArray := prog_1_method_34_code
def yX8_fallen : MethodName := ⟨RX8, "fallen", "(III)I"⟩
abbrev cX8_isSheet : ByteArray := prog_1_method_35_code
def yX8_isSheet : MethodName := ⟨RX8, "isSheet", "(I)Z"⟩
abbrev cX8_isSpot : ByteArray := prog_1_method_36_code
def yX8_isSpot : MethodName := ⟨RX8, "isSpot", "(I)Z"⟩
abbrev cX8_isGoal : ByteArray := prog_1_method_37_code
def yX8_isGoal : MethodName := ⟨RX8, "isGoal", "(I)Z"⟩
abbrev cX8_markOf : ByteArray := prog_1_method_38_code
def yX8_markOf : MethodName := ⟨RX8, "markOf", "(I)I"⟩
abbrev cX8_tokenOf : ByteArray := prog_1_method_39_code
def yX8_tokenOf : MethodName := ⟨RX8, "tokenOf", "(I)I"⟩
abbrev cX8_forgetAnswers : ByteArray := prog_1_method_40_code
def yX8_forgetAnswers : MethodName := ⟨RX8, "forgetAnswers", "()V"⟩
abbrev cX8_hasLostWayBack : ByteArray := prog_1_method_41_code
def yX8_hasLostWayBack : MethodName := ⟨RX8, "hasLostWayBack", "(LSwitchTower$Word;)Z"⟩
abbrev cX8_hasBackStates : ByteArray := prog_1_method_42_code
def yX8_hasBackStates : MethodName := ⟨RX8, "hasBackStates", "(LSwitchTower$Word;)Z"⟩
abbrev cX8_refusalOfGiven : ByteArray := prog_1_method_43_code
def yX8_refusalOfGiven : MethodName := ⟨RX8, "refusalOfGiven", "()I"⟩
abbrev cX8_bring : ByteArray := prog_1_method_44_code
def yX8_bring : MethodName := ⟨RX8, "bring", "(LSwitchTower$Word;I)I"⟩
abbrev cX8_join : ByteArray := prog_1_method_45_code
def yX8_join : MethodName := ⟨RX8, "join", "(LSwitchTower$Word;LSwitchTower$Word;I)I"⟩
abbrev cX8_walkDown : ByteArray := prog_1_method_46_code
def yX8_walkDown : MethodName := ⟨RX8, "walkDown", "(LSwitchTower$Word;II)I"⟩
abbrev cX8_gather : ByteArray := prog_1_method_47_code
def yX8_gather : MethodName := ⟨RX8, "gather", "(II)I"⟩
abbrev cX8_levelOf : ByteArray := prog_1_method_48_code
def yX8_levelOf : MethodName := ⟨RX8, "levelOf", "(I)I"⟩
abbrev cX8_walkFrom : ByteArray := prog_1_method_49_code
def yX8_walkFrom : MethodName := ⟨RX8, "walkFrom", "(II)I"⟩
def RX9 : String := "SwitchTowerModel"
def TX9 : u_T := fun k => match k with
  | 0 => ("SwitchTowerModel", "sheetKind", "[I", true)
  | 1 => ("SwitchTowerModel", "sheetSize", "[I", true)
  | 2 => ("SwitchTowerModel", "cellOf", "[I", true)
  | 3 => ("SwitchTowerModel", "letters", "I", false)
  | 4 => ("SwitchTowerModel", "states", "I", false)
  | 5 => ("SwitchTowerModel", "writes", "[I", true)
  | 6 => ("SwitchTowerModel", "goes", "[I", true)
  | 7 => ("SwitchTowerModel", "word", "[I", true)
  | 8 => ("SwitchTowerModel", "sizeOf", "[I", true)
  | 9 => ("SwitchTowerModel", "isCome", "[Z", true)
  | 10 => ("SwitchTowerModel", "tokens", "[I", true)
  | 11 => ("SwitchTowerModel", "tokenMany", "I", false)
  | 12 => ("SwitchTowerModel", "four", "[I", true)
  | 13 => ("SwitchTowerModel", "becomes", "I", false)
  | 14 => ("SwitchTowerModel", "goesOn", "I", false)
  | 15 => ("SwitchTowerModel", "row", "[I", true)
  | 16 => ("SwitchTowerModel", "rowSize", "I", false)
  | 17 => ("SwitchTowerModel", "heapWord", "[I", true)
  | 18 => ("SwitchTowerModel", "heapSize", "[I", true)
  | 19 => ("SwitchTowerModel", "heapOut", "[I", true)
  | 20 => ("SwitchTowerModel", "heapNext", "[I", true)
  | 21 => ("SwitchTowerModel", "heapMany", "I", false)
  | 22 => ("SwitchTowerModel", "heapDone", "I", false)
  | 23 => ("SwitchTowerModel", "classOf", "[I", true)
  | 24 => ("SwitchTowerModel", "newClass", "[I", true)
  | 25 => ("SwitchTowerModel", "classAt", "[I", true)
  | 26 => ("SwitchTowerModel", "first", "I", false)
  | 27 => ("SwitchTowerModel", "second", "I", false)
  | 28 => ("SwitchTowerModel", "levelSize", "I", false)
  | 29 => ("SwitchTowerModel", "madeOf", "[I", true)
  | 30 => ("SwitchTowerModel", "wordMakes", "[I", true)
  | 31 => ("SwitchTowerModel", "heapOf", "[I", true)
  | 32 => ("SwitchTowerModel", "farOf", "[I", true)
  | 33 => ("SwitchTowerModel", "placeFrom", "I", false)
  | 34 => ("SwitchTowerModel", "placeTo", "I", false)
  | 35 => ("SwitchTowerModel", "farTo", "[I", true)
  | 36 => ("SwitchTowerModel", "does", "[J", true)
  | 37 => ("SwitchTowerModel", "slotOf", "[I", true)
  | 38 => ("SwitchTowerModel", "doings", "I", false)
  | 39 => ("SwitchTowerModel", "isBackNow", "[Z", true)
  | 40 => ("SwitchTowerModel", "fallen", "[I", true)
  | _ => ("SwitchTowerModel", "fallenMany", "I", false)
def tyX9 : Nat → FieldType := fun k => match k with
  | 0 => .array .int
  | 1 => .array .int
  | 2 => .array .int
  | 3 => .int
  | 4 => .int
  | 5 => .array .int
  | 6 => .array .int
  | 7 => .array .int
  | 8 => .array .int
  | 9 => .array .boolean
  | 10 => .array .int
  | 11 => .int
  | 12 => .array .int
  | 13 => .int
  | 14 => .int
  | 15 => .array .int
  | 16 => .int
  | 17 => .array .int
  | 18 => .array .int
  | 19 => .array .int
  | 20 => .array .int
  | 21 => .int
  | 22 => .int
  | 23 => .array .int
  | 24 => .array .int
  | 25 => .array .int
  | 26 => .int
  | 27 => .int
  | 28 => .int
  | 29 => .array .int
  | 30 => .array .int
  | 31 => .array .int
  | 32 => .array .int
  | 33 => .int
  | 34 => .int
  | 35 => .array .int
  | 36 => .array .long
  | 37 => .array .int
  | 38 => .int
  | 39 => .array .boolean
  | 40 => .array .int
  | _ => .int
theorem nmX9 : ∀ a, a < 42 → ∀ b, b < 42 → a ≠ b → (TX9 a).2.1 ≠ (TX9 b).2.1 := by decide +kernel
theorem tyX9_ok : ∀ k, k < 42 → parseFieldDescriptor (TX9 k).2.2.1 = some (tyX9 k) := by decide +kernel
abbrev cX9_init : ByteArray := prog_11_method_1_code
def yX9_init : MethodName := ⟨RX9, "<init>", "()V"⟩
abbrev cX9_in : ByteArray := prog_11_method_2_code
def yX9_in : MethodName := ⟨RX9, "in", "(JJJ)Z"⟩
abbrev cX9_isSheet : ByteArray := prog_11_method_3_code
def yX9_isSheet : MethodName := ⟨RX9, "isSheet", "(I)Z"⟩
abbrev cX9_isSpot : ByteArray := prog_11_method_4_code
def yX9_isSpot : MethodName := ⟨RX9, "isSpot", "(I)Z"⟩
abbrev cX9_sheet : ByteArray := prog_11_method_5_code
def yX9_sheet : MethodName := ⟨RX9, "sheet", "(III)I"⟩
abbrev cX9_cell : ByteArray := prog_11_method_6_code
def yX9_cell : MethodName := ⟨RX9, "cell", "(III)I"⟩
abbrev cX9_told : ByteArray := prog_11_method_7_code
def yX9_told : MethodName := ⟨RX9, "told", "(II)I"⟩
abbrev cX9_lose : ByteArray := prog_11_method_8_code
def yX9_lose : MethodName := ⟨RX9, "lose", "(I)I"⟩
abbrev cX9_letters : ByteArray := prog_11_method_9_code
def yX9_letters : MethodName := ⟨RX9, "letters", "(I)I"⟩
abbrev cX9_state : ByteArray := prog_11_method_10_code
def yX9_state : MethodName := ⟨RX9, "state", "(II)I"⟩
abbrev cX9_isFair : ByteArray := prog_11_method_11_code
def yX9_isFair : MethodName := ⟨RX9, "isFair", "(I)Z"⟩
abbrev cX9_isBack : ByteArray := prog_11_method_12_code
def yX9_isBack : MethodName := ⟨RX9, "isBack", "(I)Z"⟩
abbrev cX9_change : ByteArray := prog_11_method_13_code
def yX9_change : MethodName := ⟨RX9, "change", "(IIII)I"⟩
abbrev cX9_of : ByteArray := prog_11_method_14_code
def yX9_of : MethodName := ⟨RX9, "of", "(III)I"⟩
abbrev cX9_isWhole : ByteArray := prog_11_method_15_code
def yX9_isWhole : MethodName := ⟨RX9, "isWhole", "()Z"⟩
abbrev cX9_findTokens : ByteArray := prog_11_method_16_code
def yX9_findTokens : MethodName := ⟨RX9, "findTokens", "()V"⟩
abbrev cX9_many : ByteArray := prog_11_method_17_code
def yX9_many : MethodName := ⟨RX9, "many", "(I)I"⟩
abbrev cX9_add : ByteArray := prog_11_method_18_code
def yX9_add : MethodName := ⟨RX9, "add", "(II)V"⟩
abbrev cX9_copy : ByteArray := prog_11_method_19_code
def yX9_copy : MethodName := ⟨RX9, "copy", "(II)V"⟩
abbrev cX9_put : ByteArray := prog_11_method_20_code
def yX9_put : MethodName := ⟨RX9, "put", "(IIIII)I"⟩
abbrev cX9_wipe : ByteArray := prog_11_method_21_code
def yX9_wipe : MethodName := ⟨RX9, "wipe", "(I)I"⟩
abbrev cX9_size : ByteArray := prog_11_method_22_code
def yX9_size : MethodName := ⟨RX9, "size", "(I)I"⟩
abbrev cX9_token : ByteArray := prog_11_method_23_code
def yX9_token : MethodName := ⟨RX9, "token", "(II)I"⟩
abbrev cX9_times : ByteArray := prog_11_method_24_code
def yX9_times : MethodName := ⟨RX9, "times", "(III)I"⟩
abbrev cX9_turn : ByteArray := prog_11_method_25_code
def yX9_turn : MethodName := ⟨RX9, "turn", "(II)I"⟩
abbrev cX9_step : ByteArray := prog_11_method_26_code
def yX9_step : MethodName := ⟨RX9, "step", "(II)V"⟩
abbrev cX9_partAt : ByteArray := prog_11_method_27_code
def yX9_partAt : MethodName := ⟨RX9, "partAt", "(III)I"⟩
abbrev cX9_takeRow : ByteArray := prog_11_method_28_code
def yX9_takeRow : MethodName := ⟨RX9, "takeRow", "(II)Z"⟩
abbrev cX9_rowNumber : ByteArray := prog_11_method_29_code
def yX9_rowNumber : MethodName := ⟨RX9, "rowNumber", "()I"⟩
abbrev cX9_rewrite : ByteArray := prog_11_method_30_code
def yX9_rewrite : MethodName := ⟨RX9, "rewrite", "(I)V"⟩
abbrev cX9_act : ByteArray := prog_11_method_31_code
def yX9_act : MethodName := ⟨RX9, "act", "(II)I"⟩
abbrev cX9_partAtRow : ByteArray := prog_11_method_32_code
def yX9_partAtRow : MethodName := ⟨RX9, "partAtRow", "(II)V"⟩
abbrev cX9_part : ByteArray := prog_11_method_33_code
def yX9_part : MethodName := ⟨RX9, "part", "(III)I"⟩
abbrev cX9_findInHeap : ByteArray := prog_11_method_34_code
def yX9_findInHeap : MethodName := ⟨RX9, "findInHeap", "(I)I"⟩
abbrev cX9_toHeap : ByteArray := prog_11_method_35_code
def yX9_toHeap : MethodName := ⟨RX9, "toHeap", "(I)I"⟩
abbrev cX9_fromHeap : ByteArray := prog_11_method_36_code
def yX9_fromHeap : MethodName := ⟨RX9, "fromHeap", "(II)V"⟩
abbrev cX9_grow : ByteArray := prog_11_method_37_code
def yX9_grow : MethodName := ⟨RX9, "grow", "()Z"⟩
abbrev cX9_beginHeap : ByteArray := prog_11_method_38_code
def yX9_beginHeap : MethodName := ⟨RX9, "beginHeap", "()V"⟩
abbrev cX9_isSameNow : ByteArray := prog_11_method_39_code
def yX9_isSameNow : MethodName := ⟨RX9, "isSameNow", "(II)Z"⟩
abbrev cX9_partOnce : ByteArray := prog_11_method_40_code
def yX9_partOnce : MethodName := ⟨RX9, "partOnce", "()I"⟩
abbrev cX9_partAll : ByteArray := prog_11_method_41_code
def yX9_partAll : MethodName := ⟨RX9, "partAll", "()I"⟩
abbrev cX9_takeTwo : ByteArray := prog_11_method_42_code
def yX9_takeTwo : MethodName := ⟨RX9, "takeTwo", "(II)I"⟩
abbrev cX9_same : ByteArray := prog_11_method_43_code
def yX9_same : MethodName := ⟨RX9, "same", "(II)I"⟩
abbrev cX9_apart : ByteArray := prog_11_method_44_code
def yX9_apart : MethodName := ⟨RX9, "apart", "(II)I"⟩
abbrev cX9_isParted : ByteArray := prog_11_method_45_code
def yX9_isParted : MethodName := ⟨RX9, "isParted", "(IIII)Z"⟩
abbrev cX9_heap : ByteArray := prog_11_method_46_code
def yX9_heap : MethodName := ⟨RX9, "heap", "(I)I"⟩
abbrev cX9_least : ByteArray := prog_11_method_47_code
def yX9_least : MethodName := ⟨RX9, "least", "(I)I"⟩
abbrev cX9_rowsOf : ByteArray := prog_11_method_48_code
def yX9_rowsOf : MethodName := ⟨RX9, "rowsOf", "(II)I"⟩
abbrev cX9_rowAt : ByteArray := prog_11_method_49_code
def yX9_rowAt : MethodName := ⟨RX9, "rowAt", "(II)V"⟩
abbrev cX9_placeNow : ByteArray := prog_11_method_50_code
def yX9_placeNow : MethodName := ⟨RX9, "placeNow", "()I"⟩
abbrev cX9_findLevel : ByteArray := prog_11_method_51_code
def yX9_findLevel : MethodName := ⟨RX9, "findLevel", "(I)V"⟩
abbrev cX9_isTokenBack : ByteArray := prog_11_method_52_code
def yX9_isTokenBack : MethodName := ⟨RX9, "isTokenBack", "(I)Z"⟩
abbrev cX9_common : ByteArray := prog_11_method_53_code
def yX9_common : MethodName := ⟨RX9, "common", "(JJ)J"⟩
abbrev cX9_order : ByteArray := prog_11_method_54_code
def yX9_order : MethodName := ⟨RX9, "order", "(II)I"⟩
abbrev cX9_orbits : ByteArray := prog_11_method_55_code
def yX9_orbits : MethodName := ⟨RX9, "orbits", "(I)I"⟩
abbrev cX9_takeLevel : ByteArray := prog_11_method_56_code
def yX9_takeLevel : MethodName := ⟨RX9, "takeLevel", "(I)I"⟩
abbrev cX9_findFar : ByteArray := prog_11_method_57_code
def yX9_findFar : MethodName := ⟨RX9, "findFar", "(I)V"⟩
abbrev cX9_orbit : ByteArray := prog_11_method_58_code
def yX9_orbit : MethodName := ⟨RX9, "orbit", "(I)I"⟩
abbrev cX9_takeRows : ByteArray := prog_11_method_59_code
def yX9_takeRows : MethodName := ⟨RX9, "takeRows", "(II)I"⟩
abbrev cX9_far : ByteArray := prog_11_method_60_code
def yX9_far : MethodName := ⟨RX9, "far", "(II)I"⟩
abbrev cX9_findFarTo : ByteArray := prog_11_method_61_code
def yX9_findFarTo : MethodName := ⟨RX9, "findFarTo", "(I)V"⟩
abbrev cX9_way : ByteArray := prog_11_method_62_code
def yX9_way : MethodName := ⟨RX9, "way", "(III)I"⟩
abbrev cX9_reach : ByteArray := prog_11_method_63_code
def yX9_reach : MethodName := ⟨RX9, "reach", "(I)I"⟩
abbrev cX9_toGroup : ByteArray := prog_11_method_64_code
def yX9_toGroup : MethodName := ⟨RX9, "toGroup", "(J)Z"⟩
abbrev cX9_made : ByteArray := prog_11_method_65_code
def yX9_made : MethodName := ⟨RX9, "made", "(JI)J"⟩
abbrev cX9_group : ByteArray := prog_11_method_66_code
def yX9_group : MethodName := ⟨RX9, "group", "(I)I"⟩
abbrev cX9_takeShort : ByteArray := prog_11_method_67_code
def yX9_takeShort : MethodName := ⟨RX9, "takeShort", "(I)I"⟩
abbrev cX9_growth : ByteArray := prog_11_method_68_code
def yX9_growth : MethodName := ⟨RX9, "growth", "(I)I"⟩
abbrev cX9_findLaw : ByteArray := prog_11_method_69_code
def yX9_findLaw : MethodName := ⟨RX9, "findLaw", "(I)I"⟩
abbrev cX9_laws : ByteArray := prog_11_method_70_code
def yX9_laws : MethodName := ⟨RX9, "laws", "(I)I"⟩
abbrev cX9_law : ByteArray := prog_11_method_71_code
def yX9_law : MethodName := ⟨RX9, "law", "(III)I"⟩
abbrev cX9_falls : ByteArray := prog_11_method_72_code
def yX9_falls : MethodName := ⟨RX9, "falls", "(I)Z"⟩
abbrev cX9_beginFall : ByteArray := prog_11_method_73_code
def yX9_beginFall : MethodName := ⟨RX9, "beginFall", "()Z"⟩
abbrev cX9_fallsAll : ByteArray := prog_11_method_74_code
def yX9_fallsAll : MethodName := ⟨RX9, "fallsAll", "(I)Z"⟩
abbrev cX9_fall : ByteArray := prog_11_method_75_code
def yX9_fall : MethodName := ⟨RX9, "fall", "(I)I"⟩
abbrev cX9_fallen : ByteArray := prog_11_method_76_code
def yX9_fallen : MethodName := ⟨RX9, "fallen", "(III)I"⟩
def RJ9 : String := "java/lang/Math"
abbrev cJ9_max_7cf53 : ByteArray := prog_12_method_65_code
def yJ9_max_7cf53 : MethodName := ⟨RJ9, "max", "(II)I"⟩
abbrev cJ9_max_f86c9 : ByteArray := prog_12_method_66_code
def yJ9_max_f86c9 : MethodName := ⟨RJ9, "max", "(JJ)J"⟩
abbrev cJ9_min_7cf53 : ByteArray := prog_12_method_69_code
def yJ9_min_7cf53 : MethodName := ⟨RJ9, "min", "(II)I"⟩
def RJ10 : String := "java/lang/System"
def RJ7 : String := "java/util/Arrays"
abbrev cJ7_fill_53178 : ByteArray := prog_14_method_103_code
def yJ7_fill_53178 : MethodName := ⟨RJ7, "fill", "([II)V"⟩
abbrev xcl : List vw_C := [(RX0, TX0, 5), (RX1, TX1, 4), (RX2, TX2, 8), (RX3, TX3, 10), (RX4, TX4, 13), (RX5, TX5, 4), (RX6, TX6, 10), (RX7, TX7, 2), (RX8, TX8, 9), (RX9, TX9, 42)]
end
section
/-! the program logic: cells by number, their whole numbers as two tables of functions -/
abbrev xs_F : Type := Nat ⊕ Bool
abbrev xs_L : Type := (Nat × List xs_F) ⊕ (Nat × Nat × (Nat → Nat))
abbrev xI : Type := Nat → Nat → Int32
abbrev xJ : Type := Nat → Nat → Int64
abbrev xG : Type := (Nat → Nat) × va_G × (Nat → ClassId)
abbrev xM : Type := MethodName × ByteArray × Nat × Option FieldType × Room × Nat × Nat
abbrev xQT : Type := List Frame → Array Value → State → (Nat → Prop) → State → Prop
def xN : Nat := 105
def xtab : List xs_L := [.inl (8, [.inl 1, .inl 2, .inl 3, .inl 20, .inl 21, .inl 27, .inl 35, .inl 41, .inl 56]), .inr (3, 4, fun r => 4 + 2 * r), .inr (4, 8, fun i => 12 + i), .inr (0, 4, fun _ => 0), .inl (5, [.inl 5, .inr false, .inr false, .inr false]), .inr (0, 40, fun _ => 0), .inl (5, [.inl 7, .inr false, .inr false, .inr false]), .inr (0, 40, fun _ => 0), .inl (5, [.inl 9, .inr false, .inr false, .inr false]), .inr (0, 40, fun _ => 0), .inl (5, [.inl 11, .inr false, .inr false, .inr false]), .inr (0, 40, fun _ => 0), .inl (7, [.inr true, .inr false]), .inl (7, [.inr true, .inr false]), .inl (7, [.inr true, .inr false]), .inl (7, [.inr true, .inr false]), .inl (7, [.inr true, .inr false]), .inl (7, [.inr true, .inr false]), .inl (7, [.inr true, .inr false]), .inl (7, [.inr true, .inr false]), .inl (7, [.inr true, .inr false]), .inl (3, [.inl 22, .inl 23, .inl 24, .inl 25, .inl 26, .inr false, .inr false, .inr false, .inr false, .inr false]), .inr (0, 32, fun _ => 0), .inr (0, 32, fun _ => 0), .inr (0, 64, fun _ => 0), .inr (0, 64, fun _ => 0), .inr (0, 16, fun _ => 0), .inl (2, [.inl 28, .inl 29, .inl 30, .inl 31, .inl 32, .inl 33, .inl 34, .inr false]), .inr (0, 8192, fun _ => 0), .inr (0, 9, fun _ => 0), .inr (0, 9, fun _ => 0), .inr (0, 256, fun _ => 0), .inr (0, 256, fun _ => 0), .inr (0, 256, fun _ => 0), .inr (0, 256, fun _ => 0), .inl (1, [.inl 36, .inl 40, .inr false, .inr false]), .inl (0, [.inl 37, .inl 38, .inl 39, .inr false, .inr false]), .inr (1, 3000, fun _ => 0), .inr (0, 3000, fun _ => 0), .inr (0, 4096, fun _ => 0), .inr (1, 8, fun _ => 0), .inl (4, [.inl 42, .inl 46, .inl 50, .inl 51, .inl 52, .inl 53, .inl 54, .inl 55, .inr false, .inr false, .inr false, .inr false, .inr false]), .inl (0, [.inl 43, .inl 44, .inl 45, .inr false, .inr false]), .inr (1, 200, fun _ => 0), .inr (0, 200, fun _ => 0), .inr (0, 512, fun _ => 0), .inl (0, [.inl 47, .inl 48, .inl 49, .inr false, .inr false]), .inr (1, 200, fun _ => 0), .inr (0, 200, fun _ => 0), .inr (0, 512, fun _ => 0), .inr (0, 800, fun _ => 0), .inr (0, 200, fun _ => 0), .inr (0, 200, fun _ => 0), .inr (0, 200, fun _ => 0), .inr (0, 2800, fun _ => 0), .inl (7, [.inr true, .inr false]), .inl (6, [.inl 57, .inl 72, .inl 73, .inl 74, .inl 75, .inl 76, .inr false, .inr false, .inr false, .inr false]), .inl (4, [.inl 58, .inl 62, .inl 66, .inl 67, .inl 68, .inl 69, .inl 70, .inl 71, .inr false, .inr false, .inr false, .inr false, .inr false]), .inl (0, [.inl 59, .inl 60, .inl 61, .inr false, .inr false]), .inr (1, 200, fun _ => 0), .inr (0, 200, fun _ => 0), .inr (0, 512, fun _ => 0), .inl (0, [.inl 63, .inl 64, .inl 65, .inr false, .inr false]), .inr (1, 200, fun _ => 0), .inr (0, 200, fun _ => 0), .inr (0, 512, fun _ => 0), .inr (0, 800, fun _ => 0), .inr (0, 200, fun _ => 0), .inr (0, 200, fun _ => 0), .inr (0, 200, fun _ => 0), .inr (0, 2800, fun _ => 0), .inl (7, [.inr true, .inr false]), .inl (7, [.inr true, .inr false]), .inl (7, [.inr true, .inr false]), .inr (0, 20, fun _ => 0), .inr (0, 256, fun _ => 0), .inr (0, 200, fun _ => 0), .inl (9, [.inl 78, .inl 79, .inl 80, .inr false, .inr false, .inl 81, .inl 82, .inl 83, .inl 84, .inl 85, .inl 86, .inr false, .inl 87, .inr false, .inr false, .inl 88, .inr false, .inl 89, .inl 90, .inl 91, .inl 92, .inr false, .inr false, .inl 93, .inl 94, .inl 95, .inr false, .inr false, .inr false, .inl 96, .inl 97, .inl 98, .inl 99, .inr false, .inr false, .inl 100, .inl 101, .inl 102, .inr false, .inl 103, .inl 104, .inr false]), .inr (0, 4, fun _ => 0), .inr (0, 4, fun _ => 0), .inr (0, 160, fun _ => 0), .inr (0, 32, fun _ => 0), .inr (0, 32, fun _ => 0), .inr (0, 408, fun _ => 0), .inr (0, 12, fun _ => 0), .inr (2, 8, fun _ => 0), .inr (0, 16, fun _ => 0), .inr (0, 4, fun _ => 0), .inr (0, 16, fun _ => 0), .inr (0, 3216, fun _ => 0), .inr (0, 201, fun _ => 0), .inr (0, 804, fun _ => 0), .inr (0, 804, fun _ => 0), .inr (0, 201, fun _ => 0), .inr (0, 201, fun _ => 0), .inr (0, 3015, fun _ => 0), .inr (0, 4096, fun _ => 0), .inr (0, 256, fun _ => 0), .inr (0, 256, fun _ => 0), .inr (0, 256, fun _ => 0), .inr (0, 256, fun _ => 0), .inr (1, 3001, fun _ => 0), .inr (0, 8192, fun _ => 0), .inr (2, 16, fun _ => 0), .inr (0, 20, fun _ => 0)]
def lay (k : Nat) : xs_L := xtab.getD k (.inl (0, []))

theorem lay_0 : lay 0 = .inl (8, [.inl 1, .inl 2, .inl 3, .inl 20, .inl 21, .inl 27, .inl 35, .inl 41, .inl 56]) := rfl
theorem lay_1 : lay 1 = .inr (3, 4, fun r => 4 + 2 * r) := rfl
theorem lay_2 : lay 2 = .inr (4, 8, fun i => 12 + i) := rfl
theorem lay_3 : lay 3 = .inr (0, 4, fun _ => 0) := rfl
theorem lay_4 : lay 4 = .inl (5, [.inl 5, .inr false, .inr false, .inr false]) := rfl
theorem lay_5 : lay 5 = .inr (0, 40, fun _ => 0) := rfl
theorem lay_6 : lay 6 = .inl (5, [.inl 7, .inr false, .inr false, .inr false]) := rfl
theorem lay_7 : lay 7 = .inr (0, 40, fun _ => 0) := rfl
theorem lay_8 : lay 8 = .inl (5, [.inl 9, .inr false, .inr false, .inr false]) := rfl
theorem lay_9 : lay 9 = .inr (0, 40, fun _ => 0) := rfl
theorem lay_10 : lay 10 = .inl (5, [.inl 11, .inr false, .inr false, .inr false]) := rfl
theorem lay_11 : lay 11 = .inr (0, 40, fun _ => 0) := rfl
theorem lay_12 : lay 12 = .inl (7, [.inr true, .inr false]) := rfl
theorem lay_13 : lay 13 = .inl (7, [.inr true, .inr false]) := rfl
theorem lay_14 : lay 14 = .inl (7, [.inr true, .inr false]) := rfl
theorem lay_15 : lay 15 = .inl (7, [.inr true, .inr false]) := rfl
theorem lay_16 : lay 16 = .inl (7, [.inr true, .inr false]) := rfl
theorem lay_17 : lay 17 = .inl (7, [.inr true, .inr false]) := rfl
theorem lay_18 : lay 18 = .inl (7, [.inr true, .inr false]) := rfl
theorem lay_19 : lay 19 = .inl (7, [.inr true, .inr false]) := rfl
theorem lay_20 : lay 20 = .inl (7, [.inr true, .inr false]) := rfl
theorem lay_21 : lay 21 = .inl (3, [.inl 22, .inl 23, .inl 24, .inl 25, .inl 26, .inr false, .inr false, .inr false, .inr false, .inr false]) := rfl
theorem lay_22 : lay 22 = .inr (0, 32, fun _ => 0) := rfl
theorem lay_23 : lay 23 = .inr (0, 32, fun _ => 0) := rfl
theorem lay_24 : lay 24 = .inr (0, 64, fun _ => 0) := rfl
theorem lay_25 : lay 25 = .inr (0, 64, fun _ => 0) := rfl
theorem lay_26 : lay 26 = .inr (0, 16, fun _ => 0) := rfl
theorem lay_27 : lay 27 = .inl (2, [.inl 28, .inl 29, .inl 30, .inl 31, .inl 32, .inl 33, .inl 34, .inr false]) := rfl
theorem lay_28 : lay 28 = .inr (0, 8192, fun _ => 0) := rfl
theorem lay_29 : lay 29 = .inr (0, 9, fun _ => 0) := rfl
theorem lay_30 : lay 30 = .inr (0, 9, fun _ => 0) := rfl
theorem lay_31 : lay 31 = .inr (0, 256, fun _ => 0) := rfl
theorem lay_32 : lay 32 = .inr (0, 256, fun _ => 0) := rfl
theorem lay_33 : lay 33 = .inr (0, 256, fun _ => 0) := rfl
theorem lay_34 : lay 34 = .inr (0, 256, fun _ => 0) := rfl
theorem lay_35 : lay 35 = .inl (1, [.inl 36, .inl 40, .inr false, .inr false]) := rfl
theorem lay_36 : lay 36 = .inl (0, [.inl 37, .inl 38, .inl 39, .inr false, .inr false]) := rfl
theorem lay_37 : lay 37 = .inr (1, 3000, fun _ => 0) := rfl
theorem lay_38 : lay 38 = .inr (0, 3000, fun _ => 0) := rfl
theorem lay_39 : lay 39 = .inr (0, 4096, fun _ => 0) := rfl
theorem lay_40 : lay 40 = .inr (1, 8, fun _ => 0) := rfl
theorem lay_41 : lay 41 = .inl (4, [.inl 42, .inl 46, .inl 50, .inl 51, .inl 52, .inl 53, .inl 54, .inl 55, .inr false, .inr false, .inr false, .inr false, .inr false]) := rfl
theorem lay_42 : lay 42 = .inl (0, [.inl 43, .inl 44, .inl 45, .inr false, .inr false]) := rfl
theorem lay_43 : lay 43 = .inr (1, 200, fun _ => 0) := rfl
theorem lay_44 : lay 44 = .inr (0, 200, fun _ => 0) := rfl
theorem lay_45 : lay 45 = .inr (0, 512, fun _ => 0) := rfl
theorem lay_46 : lay 46 = .inl (0, [.inl 47, .inl 48, .inl 49, .inr false, .inr false]) := rfl
theorem lay_47 : lay 47 = .inr (1, 200, fun _ => 0) := rfl
theorem lay_48 : lay 48 = .inr (0, 200, fun _ => 0) := rfl
theorem lay_49 : lay 49 = .inr (0, 512, fun _ => 0) := rfl
theorem lay_50 : lay 50 = .inr (0, 800, fun _ => 0) := rfl
theorem lay_51 : lay 51 = .inr (0, 200, fun _ => 0) := rfl
theorem lay_52 : lay 52 = .inr (0, 200, fun _ => 0) := rfl
theorem lay_53 : lay 53 = .inr (0, 200, fun _ => 0) := rfl
theorem lay_54 : lay 54 = .inr (0, 2800, fun _ => 0) := rfl
theorem lay_55 : lay 55 = .inl (7, [.inr true, .inr false]) := rfl
theorem lay_56 : lay 56 = .inl (6, [.inl 57, .inl 72, .inl 73, .inl 74, .inl 75, .inl 76, .inr false, .inr false, .inr false, .inr false]) := rfl
theorem lay_57 : lay 57 = .inl (4, [.inl 58, .inl 62, .inl 66, .inl 67, .inl 68, .inl 69, .inl 70, .inl 71, .inr false, .inr false, .inr false, .inr false, .inr false]) := rfl
theorem lay_58 : lay 58 = .inl (0, [.inl 59, .inl 60, .inl 61, .inr false, .inr false]) := rfl
theorem lay_59 : lay 59 = .inr (1, 200, fun _ => 0) := rfl
theorem lay_60 : lay 60 = .inr (0, 200, fun _ => 0) := rfl
theorem lay_61 : lay 61 = .inr (0, 512, fun _ => 0) := rfl
theorem lay_62 : lay 62 = .inl (0, [.inl 63, .inl 64, .inl 65, .inr false, .inr false]) := rfl
theorem lay_63 : lay 63 = .inr (1, 200, fun _ => 0) := rfl
theorem lay_64 : lay 64 = .inr (0, 200, fun _ => 0) := rfl
theorem lay_65 : lay 65 = .inr (0, 512, fun _ => 0) := rfl
theorem lay_66 : lay 66 = .inr (0, 800, fun _ => 0) := rfl
theorem lay_67 : lay 67 = .inr (0, 200, fun _ => 0) := rfl
theorem lay_68 : lay 68 = .inr (0, 200, fun _ => 0) := rfl
theorem lay_69 : lay 69 = .inr (0, 200, fun _ => 0) := rfl
theorem lay_70 : lay 70 = .inr (0, 2800, fun _ => 0) := rfl
theorem lay_71 : lay 71 = .inl (7, [.inr true, .inr false]) := rfl
theorem lay_72 : lay 72 = .inl (7, [.inr true, .inr false]) := rfl
theorem lay_73 : lay 73 = .inl (7, [.inr true, .inr false]) := rfl
theorem lay_74 : lay 74 = .inr (0, 20, fun _ => 0) := rfl
theorem lay_75 : lay 75 = .inr (0, 256, fun _ => 0) := rfl
theorem lay_76 : lay 76 = .inr (0, 200, fun _ => 0) := rfl
theorem lay_77 : lay 77 = .inl (9, [.inl 78, .inl 79, .inl 80, .inr false, .inr false, .inl 81, .inl 82, .inl 83, .inl 84, .inl 85, .inl 86, .inr false, .inl 87, .inr false, .inr false, .inl 88, .inr false, .inl 89, .inl 90, .inl 91, .inl 92, .inr false, .inr false, .inl 93, .inl 94, .inl 95, .inr false, .inr false, .inr false, .inl 96, .inl 97, .inl 98, .inl 99, .inr false, .inr false, .inl 100, .inl 101, .inl 102, .inr false, .inl 103, .inl 104, .inr false]) := rfl
theorem lay_78 : lay 78 = .inr (0, 4, fun _ => 0) := rfl
theorem lay_79 : lay 79 = .inr (0, 4, fun _ => 0) := rfl
theorem lay_80 : lay 80 = .inr (0, 160, fun _ => 0) := rfl
theorem lay_81 : lay 81 = .inr (0, 32, fun _ => 0) := rfl
theorem lay_82 : lay 82 = .inr (0, 32, fun _ => 0) := rfl
theorem lay_83 : lay 83 = .inr (0, 408, fun _ => 0) := rfl
theorem lay_84 : lay 84 = .inr (0, 12, fun _ => 0) := rfl
theorem lay_85 : lay 85 = .inr (2, 8, fun _ => 0) := rfl
theorem lay_86 : lay 86 = .inr (0, 16, fun _ => 0) := rfl
theorem lay_87 : lay 87 = .inr (0, 4, fun _ => 0) := rfl
theorem lay_88 : lay 88 = .inr (0, 16, fun _ => 0) := rfl
theorem lay_89 : lay 89 = .inr (0, 3216, fun _ => 0) := rfl
theorem lay_90 : lay 90 = .inr (0, 201, fun _ => 0) := rfl
theorem lay_91 : lay 91 = .inr (0, 804, fun _ => 0) := rfl
theorem lay_92 : lay 92 = .inr (0, 804, fun _ => 0) := rfl
theorem lay_93 : lay 93 = .inr (0, 201, fun _ => 0) := rfl
theorem lay_94 : lay 94 = .inr (0, 201, fun _ => 0) := rfl
theorem lay_95 : lay 95 = .inr (0, 3015, fun _ => 0) := rfl
theorem lay_96 : lay 96 = .inr (0, 4096, fun _ => 0) := rfl
theorem lay_97 : lay 97 = .inr (0, 256, fun _ => 0) := rfl
theorem lay_98 : lay 98 = .inr (0, 256, fun _ => 0) := rfl
theorem lay_99 : lay 99 = .inr (0, 256, fun _ => 0) := rfl
theorem lay_100 : lay 100 = .inr (0, 256, fun _ => 0) := rfl
theorem lay_101 : lay 101 = .inr (1, 3001, fun _ => 0) := rfl
theorem lay_102 : lay 102 = .inr (0, 8192, fun _ => 0) := rfl
theorem lay_103 : lay 103 = .inr (2, 16, fun _ => 0) := rfl
theorem lay_104 : lay 104 = .inr (0, 20, fun _ => 0) := rfl
end
section
theorem xtab_len : xtab.length = xN := by decide +kernel
theorem lay_out {k : Nat} (h : ¬ k < xN) : lay k = .inl (0, []) := by
  unfold lay
  rw [List.getD_eq_getElem?_getD, List.getElem?_eq_none (by rw [xtab_len]; omega)]
  rfl
theorem lay_lt_a {k : Nat} {a : Nat × Nat × (Nat → Nat)} (h : lay k = .inr a) : k < xN := by
  by_cases hk : k < xN
  · exact hk
  · rw [lay_out hk] at h; cases h
theorem lay_lt_o {k ci j : Nat} {fs : List xs_F} {sp : xs_F} (h : lay k = .inl (ci, fs)) (hj : fs[j]? = some sp) : k < xN := by
  by_cases hk : k < xN
  · exact hk
  · rw [lay_out hk] at h
    cases h
    simp at hj
-- what a cell holds
def xs_fs (ad : Nat → Nat) (i : Nat → Int32) (j : Nat → Int64) : Nat → List xs_F → List Value
  | _, [] => []
  | n, .inl r :: l => .ref (ad r) :: xs_fs ad i j (n + 1) l
  | n, .inr false :: l => .int (i n) :: xs_fs ad i j (n + 1) l
  | n, .inr true :: l => .long (j n) :: xs_fs ad i j (n + 1) l
def xs_v (ad : Nat → Nat) (i : Nat → Int32) (j : Nat → Int64) (n : Nat) : xs_F → Value
  | .inl r => .ref (ad r)
  | .inr false => .int (i n)
  | .inr true => .long (j n)
theorem xs_fs_at (ad : Nat → Nat) (i : Nat → Int32) (j : Nat → Int64) : ∀ (fs : List xs_F) (n k : Nat), (xs_fs ad i j n fs)[k]? = (fs[k]?).map (xs_v ad i j (n + k))
  | [], n, k => by simp [xs_fs]
  | .inl r :: l, n, 0 => rfl
  | .inr false :: l, n, 0 => rfl
  | .inr true :: l, n, 0 => rfl
  | .inl r :: l, n, k + 1 => by
    have h := xs_fs_at ad i j l (n + 1) k
    rw [show n + 1 + k = n + (k + 1) by omega] at h
    simpa [xs_fs] using h
  | .inr false :: l, n, k + 1 => by
    have h := xs_fs_at ad i j l (n + 1) k
    rw [show n + 1 + k = n + (k + 1) by omega] at h
    simpa [xs_fs] using h
  | .inr true :: l, n, k + 1 => by
    have h := xs_fs_at ad i j l (n + 1) k
    rw [show n + 1 + k = n + (k + 1) by omega] at h
    simpa [xs_fs] using h
theorem xs_fs_len (ad : Nat → Nat) (i : Nat → Int32) (j : Nat → Int64) : ∀ (fs : List xs_F) (n : Nat), (xs_fs ad i j n fs).length = fs.length
  | [], n => rfl
  | .inl r :: l, n => by simp [xs_fs, xs_fs_len ad i j l]
  | .inr false :: l, n => by simp [xs_fs, xs_fs_len ad i j l]
  | .inr true :: l, n => by simp [xs_fs, xs_fs_len ad i j l]
theorem xs_fs_setI (ad : Nat → Nat) (i : Nat → Int32) (j : Nat → Int64) {fs : List xs_F} {k : Nat} (h : fs[k]? = some (.inr false)) (x : Int32) : (xs_fs ad i j 0 fs).set k (.int x) = xs_fs ad (upd i k x) j 0 fs := by
  apply List.ext_getElem?
  intro q
  rw [xs_fs_at]
  by_cases hq : q = k
  · subst hq
    have hl : q < (xs_fs ad i j 0 fs).length := by
      rw [xs_fs_len]; exact (List.getElem?_eq_some_iff.mp h).1
    rw [List.getElem?_set_self hl, h]
    simp [xs_v, upd]
  · rw [List.getElem?_set_ne (fun e => hq e.symm), xs_fs_at]
    cases hf : fs[q]? with
    | none => rfl
    | some sp => rcases sp with r | b
                 · rfl
                 · cases b
                   · simp [xs_v, upd, hq]
                   · rfl
theorem xs_fs_setJ (ad : Nat → Nat) (i : Nat → Int32) (j : Nat → Int64) {fs : List xs_F} {k : Nat} (h : fs[k]? = some (.inr true)) (x : Int64) : (xs_fs ad i j 0 fs).set k (.long x) = xs_fs ad i (vp_updL j k x) 0 fs := by
  apply List.ext_getElem?
  intro q
  rw [xs_fs_at]
  by_cases hq : q = k
  · subst hq
    have hl : q < (xs_fs ad i j 0 fs).length := by
      rw [xs_fs_len]; exact (List.getElem?_eq_some_iff.mp h).1
    rw [List.getElem?_set_self hl, h]
    simp [xs_v, vp_updL]
  · rw [List.getElem?_set_ne (fun e => hq e.symm), xs_fs_at]
    cases hf : fs[q]? with
    | none => rfl
    | some sp => rcases sp with r | b
                 · rfl
                 · cases b
                   · rfl
                   · simp [xs_v, vp_updL, hq]
def xs_a (G : xG) (i : Nat → Int32) (j : Nat → Int64) (a : Nat × Nat × (Nat → Nat)) : va_E := match a.1 with
  | 1 => .inl (G.2.2 1, a.2.1, .inr (.inl j))
  | 3 => .inl (G.2.2 3, a.2.1, .inr (.inr (.inr (.inr (fun k => some (G.1 (a.2.2 k)))))))
  | 4 => .inl (G.2.2 4, a.2.1, .inr (.inr (.inr (.inr (fun k => some (G.1 (a.2.2 k)))))))
  | n => .inl (G.2.2 n, a.2.1, .inl i)
def xs_c (G : xG) (i : Nat → Int32) (j : Nat → Int64) (L : xs_L) : va_E := match L with
  | .inl o => .inr (o.1, xs_fs G.1 i j 0 o.2)
  | .inr a => xs_a G i j a
def xs_e (G : xG) (I : xI) (J : xJ) (k : Nat) : va_E := xs_c G (I k) (J k) (lay k)
def xws (G : xG) (I : xI) (J : xJ) : va_W := (List.range xN).map (fun k => (G.1 k, xs_e G I J k))
abbrev xtys (G : xG) : List (ClassId × FieldType) := [(G.2.2 0, .int), (G.2.2 1, .long), (G.2.2 2, .boolean), (G.2.2 3, .object "SwitchTower$Sheet"), (G.2.2 4, .object "SwitchTower$Word")]
theorem xws_at {G : xG} {I : xI} {J : xJ} {k : Nat} (h : k < xN) : (xws G I J)[k]? = some (G.1 k, xs_e G I J k) := by
  simp [xws, h]
theorem xws_inv {G : xG} {I : xI} {J : xJ} {k : Nat} {q : Nat × va_E} (h : (xws G I J)[k]? = some q) : k < xN ∧ q = (G.1 k, xs_e G I J k) := by
  have hk : k < xN := by
    have := (List.getElem?_eq_some_iff.mp h).1
    simpa [xws] using this
  exact ⟨hk, Option.some.inj (h.symm.trans (xws_at hk))⟩
theorem xws_set {G : xG} {I I' : xI} {J J' : xJ} {k : Nat} {e : va_E} (hk : k < xN) (he : xs_e G I' J' k = e) (ho : ∀ q, q ≠ k → xs_e G I' J' q = xs_e G I J q) : (xws G I J).set k (G.1 k, e) = xws G I' J' := by
  apply List.ext_getElem?
  intro q
  by_cases hq : q = k
  · subst hq
    rw [List.getElem?_set_self (by simpa [xws] using hk), xws_at hk, he]
  · rw [List.getElem?_set_ne (fun e => hq e.symm)]
    by_cases hqn : q < xN
    · rw [xws_at hqn, xws_at hqn, ho q hq]
    · rw [List.getElem?_eq_none (by simp [xws]; omega), List.getElem?_eq_none (by simp [xws]; omega)]
theorem xws_setI {G : xG} {I : xI} {J : xJ} {k : Nat} {i : Nat → Int32} {e : va_E} (hk : k < xN) (he : xs_c G i (J k) (lay k) = e) : (xws G I J).set k (G.1 k, e) = xws G (va_up I k i) J := by
  refine xws_set hk ?_ (fun q hq => ?_)
  · rw [← he]; simp [xs_e, va_up]
  · simp [xs_e, va_up, hq]
theorem xws_setJ {G : xG} {I : xI} {J : xJ} {k : Nat} {j : Nat → Int64} {e : va_E} (hk : k < xN) (he : xs_c G (I k) j (lay k) = e) : (xws G I J).set k (G.1 k, e) = xws G I (va_up J k j) := by
  refine xws_set hk ?_ (fun q hq => ?_)
  · rw [← he]; simp [xs_e, va_up]
  · simp [xs_e, va_up, hq]
def xInj (G : xG) : Prop := ∀ i j : Nat, i < xN → j < xN → G.1 i = G.1 j → i = j
theorem xD {G : xG} {I : xI} {J : xJ} {A : Nat → Prop} (hi : xInj G) (hA : ∀ k, k < xN → A (G.1 k)) : va_D A (xws G I J) := by
  refine ⟨fun i j p q hp hq e => ?_, fun k q hk => ?_⟩
  · obtain ⟨h1, rfl⟩ := xws_inv hp
    obtain ⟨h2, rfl⟩ := xws_inv hq
    exact hi i j h1 h2 e
  · obtain ⟨h1, rfl⟩ := xws_inv hk
    exact hA k h1
-- locals, by place
def xal : Nat → List (Option Value) → List (Nat × Value)
  | _, [] => []
  | n, none :: l => xal (n + 1) l
  | n, some v :: l => (n, v) :: xal (n + 1) l
theorem xal_mem : ∀ (l : List (Option Value)) (n : Nat) (q : Nat × Value), q ∈ xal n l ↔ n ≤ q.1 ∧ l[q.1 - n]? = some (some q.2)
  | [], n, q => by simp [xal]
  | none :: l, n, q => by
    rw [xal, xal_mem l (n + 1) q]
    constructor
    · rintro ⟨h1, h2⟩
      refine ⟨by omega, ?_⟩
      rw [show q.1 - n = (q.1 - (n + 1)) + 1 by omega, List.getElem?_cons_succ]
      exact h2
    · rintro ⟨h1, h2⟩
      by_cases h : q.1 = n
      · rw [h, Nat.sub_self] at h2
        simp at h2
      · rw [show q.1 - n = (q.1 - (n + 1)) + 1 by omega, List.getElem?_cons_succ] at h2
        exact ⟨by omega, h2⟩
  | some v :: l, n, q => by
    rw [xal, List.mem_cons, xal_mem l (n + 1) q]
    constructor
    · rintro (h | ⟨h1, h2⟩)
      · subst h
        simp
      · refine ⟨by omega, ?_⟩
        rw [show q.1 - n = (q.1 - (n + 1)) + 1 by omega, List.getElem?_cons_succ]
        exact h2
    · rintro ⟨h1, h2⟩
      by_cases h : q.1 = n
      · left
        rw [h, Nat.sub_self] at h2
        simp at h2
        rw [h2, ← h]
      · right
        rw [show q.1 - n = (q.1 - (n + 1)) + 1 by omega, List.getElem?_cons_succ] at h2
        exact ⟨by omega, h2⟩
abbrev xL : Type := List (Option Value)
def xkill (l : xL) (i : Nat) : xL := match l[i]? with
  | some (some (.long _)) => l.set i none
  | some (some (.double _)) => l.set i none
  | _ => l
def xpre (l : xL) (i : Nat) : xL := match i with
  | 0 => l
  | i + 1 => xkill l i
def xst1 (l : xL) (i : Nat) (v : Value) : xL := (xpre l i).set i (some v)
def xst2 (l : xL) (i : Nat) (v : Value) : xL := ((xpre l i).set i (some v)).set (i + 1) none
def xhas (ls : Array Slot) (nL : Nat) (l : xL) : Prop := lv_has ls nL (xal 0 l)
theorem xhas_at {ls : Array Slot} {nL : Nat} {l : xL} (h : xhas ls nL l) {i : Nat} {v : Value} (hi : l[i]? = some (some v)) : ls[i]? = some (.val v) := h.2.2 (i, v) ((xal_mem l 0 (i, v)).mpr ⟨Nat.zero_le _, hi⟩)
theorem xhas_of {ls : Array Slot} {nL : Nat} {l : xL} {lv : List (Nat × Value)} (h : lv_has ls nL lv) (hs : ∀ (i : Nat) (v : Value), l[i]? = some (some v) → (i, v) ∈ lv) : xhas ls nL l := by
  refine ⟨h.1, h.2.1, fun q hq => h.2.2 q ?_⟩
  obtain ⟨-, h2⟩ := (xal_mem l 0 q).mp hq
  exact hs q.1 q.2 h2
theorem xkill_at {l : xL} {i k : Nat} {v : Value} (h : (xkill l i)[k]? = some (some v)) : l[k]? = some (some v) ∧ (k = i → ¬ v.category = 2) := by
  unfold xkill at h
  by_cases hk : k = i
  · subst hk
    split at h
    · rename_i w hw
      rw [List.getElem?_set_self (List.getElem?_eq_some_iff.mp hw).1] at h
      cases h
    · rename_i w hw
      rw [List.getElem?_set_self (List.getElem?_eq_some_iff.mp hw).1] at h
      cases h
    · rename_i h1 h2
      refine ⟨h, fun _ hc => ?_⟩
      cases v with
      | long x => exact h1 x h
      | double x => exact h2 x h
      | _ => simp [Value.category] at hc
  · refine ⟨?_, fun e => absurd e hk⟩
    split at h
    · rwa [List.getElem?_set_ne (fun e => hk e.symm)] at h
    · rwa [List.getElem?_set_ne (fun e => hk e.symm)] at h
    · exact h
theorem xpre_at {l : xL} {i k : Nat} {v : Value} (h : (xpre l i)[k]? = some (some v)) : l[k]? = some (some v) ∧ (k + 1 = i → ¬ v.category = 2) := by
  cases i with
  | zero => exact ⟨h, fun e => by omega⟩
  | succ i =>
    obtain ⟨h1, h2⟩ := xkill_at (i := i) h
    exact ⟨h1, fun e => h2 (by omega)⟩
theorem xst1_in {l : xL} {i : Nat} {x : Value} (k : Nat) (v : Value) (h : (xst1 l i x)[k]? = some (some v)) : (k, v) ∈ (i, x) :: (xal 0 l).filter (fun q => !(q.1 == i) && !(q.1 + 1 == i && q.2.category == 2)) := by
  unfold xst1 at h
  by_cases hk : k = i
  · subst hk
    by_cases hl : k < (xpre l k).length
    · rw [List.getElem?_set_self hl] at h
      cases h
      exact List.mem_cons_self
    · rw [List.getElem?_eq_none (by simpa using hl)] at h
      cases h
  · rw [List.getElem?_set_ne (fun e => hk e.symm)] at h
    obtain ⟨h1, h2⟩ := xpre_at h
    refine List.mem_cons_of_mem _ (List.mem_filter.mpr ⟨(xal_mem l 0 (k, v)).mpr ⟨Nat.zero_le _, h1⟩, ?_⟩)
    simp only [Bool.and_eq_true, Bool.not_eq_true', beq_eq_false_iff_ne, ne_eq, Bool.and_eq_false_imp, beq_iff_eq]
    exact ⟨hk, fun e => h2 e⟩
theorem xst2_in {l : xL} {i : Nat} {x : Value} (k : Nat) (v : Value) (h : (xst2 l i x)[k]? = some (some v)) : (k, v) ∈ (i, x) :: (xal 0 l).filter (fun q => !(q.1 == i) && (!(q.1 == i + 1) && !(q.1 + 1 == i && q.2.category == 2))) := by
  unfold xst2 at h
  by_cases hk1 : k = i + 1
  · subst hk1
    by_cases hl : i + 1 < ((xpre l i).set i (some x)).length
    · rw [List.getElem?_set_self hl] at h
      cases h
    · rw [List.getElem?_eq_none (by simpa using hl)] at h
      cases h
  rw [List.getElem?_set_ne (fun e => hk1 e.symm)] at h
  by_cases hk : k = i
  · subst hk
    by_cases hl : k < (xpre l k).length
    · rw [List.getElem?_set_self hl] at h
      cases h
      exact List.mem_cons_self
    · rw [List.getElem?_eq_none (by simpa using hl)] at h
      cases h
  · rw [List.getElem?_set_ne (fun e => hk e.symm)] at h
    obtain ⟨h1, h2⟩ := xpre_at h
    refine List.mem_cons_of_mem _ (List.mem_filter.mpr ⟨(xal_mem l 0 (k, v)).mpr ⟨Nat.zero_le _, h1⟩, ?_⟩)
    simp only [Bool.and_eq_true, Bool.not_eq_true', beq_eq_false_iff_ne, ne_eq, Bool.and_eq_false_imp, beq_iff_eq]
    exact ⟨hk, hk1, fun e => h2 e⟩
-- the words
def xw : List Cond := lw_tbl.filter goodWord
theorem xw_sub {w : Cond} (h : w ∈ xw) : w ∈ lw_tbl := (List.mem_filter.mp h).1
theorem xw_good {w : Cond} (h : w ∈ xw) : goodWord w = true := (List.mem_filter.mp h).2
theorem xw_in {w : Cond} (h : w ∈ lw_tbl) (hg : goodWord w = true) : w ∈ xw := List.mem_filter.mpr ⟨h, hg⟩
theorem xt {w : Cond} (n : Nat) (h : tables_1[n]? = some w) (hg : goodWord w = true) : w ∈ xw := xw_in (List.mem_append_right _ (List.mem_of_getElem? h)) hg
theorem xp {w : Cond} (h : w ∈ k2_sels lw_privs) (hg : goodWord w = true) : w ∈ xw := xw_in (List.mem_append_left _ h) hg
def xnest : Cond := .methodLinkNest RX3 60 yX8_isGoal RX8
-- a method's own words
abbrev xown (F : xM) : List Cond := .code F.1 F.2.1 F.2.2.1 F.2.2.2.1 :: xw
theorem xown_good {F F' : xM} (h : Cond.code F'.1 F'.2.1 F'.2.2.1 F'.2.2.2.1 ∈ xw) : GoodIn (xown F) (xown F') := by
  intro w hw
  rcases List.mem_cons.mp hw with e | h1
  · subst e
    exact ⟨List.mem_cons_of_mem _ h, good_of_word (xw_good h)⟩
  · exact ⟨List.mem_cons_of_mem _ h1, good_of_word (xw_good h1)⟩
/-- what holds in a method's body -/
def xC (G : xG) (F : xM) (p : Program) (s : State) (m : MethodId) (args : Array Value) (meth : Method) (c : Code) (A : Nat → Prop) : Prop :=
  p.tables.exec = Jvm.exec ∧ c.code = F.2.1 ∧ c.maxLocals = F.2.2.1 ∧ s.vm.findClass F.1.cls = some m.cls ∧ (∀ w ∈ xw, w.before args s = true) ∧ va_K G.2.1 xcl (xtys G) s ∧ xInj G ∧ (∀ k, k < xN → A (G.1 k)) ∧ meth.locks = false ∧ meth.sig.returnType = F.2.2.2.1 ∧ va_Nw xnest s
def xT (G : xG) (F : xM) (Q : xQT) (pc : Nat) (lv : xL) (st : List Value) (I : xI) (J : xJ) : Prop :=
  ∀ (p : Program) (l : Launch) (e : Env) (s : State) (m : MethodId) (args : Array Value) (below : List Frame) (meth : Method) (c : Code) (A : Nat → Prop), xC G F p s m args meth c A →
  ∀ (H : Heap) (locs : List Loc) (ls : Array Slot), xhas ls F.2.2.1 lv → va_P G.2.1 xcl (xws G I J) H → va_S A s.heap H locs → W p l e F.2.2.2.2.1 s m args below meth c H locs F.2.2.2.2.2.1 F.2.2.2.2.2.2 (Q below args s A) (F0 m pc ls st)
def xA (G : xG) : Nat → Prop := fun q => ∃ k, k < xN ∧ q = G.1 k
def xQc (G : xG) (post : Option Value → xI → xJ → Prop) (A : Nat → Prop) : Array Value → State → Outcome → State → Prop := fun _ st oc t => (∃ (r : Option Value) (I : xI) (J : xJ), oc = .returned r ∧ post r I J ∧ va_P G.2.1 xcl (xws G I J) t.heap) ∧ va_F A st t
def xMQ (G : xG) (post : Option Value → xI → xJ → Prop) : xQT := fun below args s A => MQ below (xQc G post A) args s 0 0 A
def xPc (G : xG) (av : List Value) (I : xI) (J : xJ) : Array Value → State → Prop := va_Pc av (fun U => va_P G.2.1 xcl (xws G I J) U.heap ∧ va_K G.2.1 xcl (xtys G) U ∧ va_Nw xnest U ∧ xInj G)
/-- a method's contract -/
def xCon (G : xG) (F : xM) (av : List Value) (I : xI) (J : xJ) (post : Option Value → xI → xJ → Prop) : Prop :=
  ∀ l : Launch, Met l F.1 (xown F) F.2.2.2.2.1 (xPc G av I J) (xQc G post (xA G)) 0 0 (xA G)
def xEnt : List Value → xL
  | [] => []
  | v :: vs => if v.category = 2 then some v :: none :: xEnt vs else some v :: xEnt vs
theorem xEnt_in : ∀ (vs : List Value) (n i : Nat) (v : Value), (xEnt vs)[i]? = some (some v) → (n + i, v) ∈ lv_args n vs
  | [], n, i, v, h => by simp [xEnt] at h
  | w :: vs, n, i, v, h => by
    unfold xEnt at h
    unfold lv_args
    by_cases hc : w.category = 2
    · rw [if_pos hc] at h ⊢
      match i, h with
      | 0, h => simp at h; subst h; simp
      | 1, h => simp at h
      | i + 2, h =>
        have h1 := xEnt_in vs (n + 2) i v (by simpa using h)
        rw [show n + 2 + i = n + (i + 2) by omega] at h1
        exact List.mem_cons_of_mem _ h1
    · rw [if_neg hc] at h ⊢
      match i, h with
      | 0, h => simp at h; subst h; simp
      | i + 1, h =>
        have h1 := xEnt_in vs (n + 1) i v (by simpa using h)
        rw [show n + 1 + i = n + (i + 1) by omega] at h1
        exact List.mem_cons_of_mem _ h1
/-- a contract by its body -/
theorem x_enter {G : xG} {F : xM} {av : List Value} {I : xI} {J : xJ} {post : Option Value → xI → xJ → Prop} (lv : xL) (hy : plainName F.1.cls = true) (hn : (lg_sl av).length ≤ F.2.2.1) (hc : F.2.2.2.2.2 = (0, 0)) (hlv : ∀ (i : Nat) (v : Value), lv[i]? = some (some v) → (xEnt av)[i]? = some (some v)) (h : xT G F (xMQ G post) 0 lv [] I J) : xCon G F av I J post := by
  intro l
  refine Met.ofW (cc := F.2.1) (maxL := F.2.2.1) (ret := F.2.2.2.1) (ws' := xw) hy rfl ?_
  intro p e s m args below meth c s₁ B hml hv
  obtain ⟨rfl, hP, hK, hN, hi⟩ := hv
  have hts := atoms_spec (ws := xown F) B.pre
  have hl := lv_entry av (n := F.2.2.1) hn
  rw [lg_entry_eq]
  have hl2 : xhas ((lg_sl av ++ List.replicate (F.2.2.1 - (lg_sl av).length) Slot.unset).toArray) F.2.2.1 lv := xhas_of hl (fun i v hiv => by
    have := xEnt_in av 0 i v (hlv i v hiv)
    rwa [Nat.zero_add] at this)
  have hh := h p l e s m av.toArray below meth c (xA G) ⟨B.exec, B.bytes, hml, findClass_of_methodNamed B.named, fun w hw => hts w (List.mem_cons_of_mem _ hw), hK, hi, fun k hk => ⟨k, hk, rfl⟩, B.notSynchronized, B.returns, hN⟩ s.heap [] _ hl2 hP va_S.rf
  rw [show F.2.2.2.2.2.1 = 0 by rw [hc], show F.2.2.2.2.2.2 = 0 by rw [hc]] at hh
  exact hh
end
section
section XR
variable {G : xG} {F : xM} {Q : xQT} {pc : Nat} {lv : xL} {st : List Value} {I : xI} {J : xJ}
theorem xr_iadd {x y : Int32} (hd : decode F.2.1 pc = .ok (.iadd, 1)) (k : xT G F Q (pc + 1) lv (.int (x + y) :: st) I J) : xT G F Q pc lv (.int y :: .int x :: st) I J := fun p l e s m args below meth c A C H locs ls hl hP hS => lv_iadd C.1 C.2.1 hd (k p l e s m args below meth c A C H locs ls hl hP hS)
theorem xr_isub {x y : Int32} (hd : decode F.2.1 pc = .ok (.isub, 1)) (k : xT G F Q (pc + 1) lv (.int (x - y) :: st) I J) : xT G F Q pc lv (.int y :: .int x :: st) I J := fun p l e s m args below meth c A C H locs ls hl hP hS => lv_isub C.1 C.2.1 hd (k p l e s m args below meth c A C H locs ls hl hP hS)
theorem xr_imul {x y : Int32} (hd : decode F.2.1 pc = .ok (.imul, 1)) (k : xT G F Q (pc + 1) lv (.int (x * y) :: st) I J) : xT G F Q pc lv (.int y :: .int x :: st) I J := fun p l e s m args below meth c A C H locs ls hl hP hS => lv_imul C.1 C.2.1 hd (k p l e s m args below meth c A C H locs ls hl hP hS)
theorem xr_iand {x y : Int32} (hd : decode F.2.1 pc = .ok (.iand, 1)) (k : xT G F Q (pc + 1) lv (.int (x &&& y) :: st) I J) : xT G F Q pc lv (.int y :: .int x :: st) I J := fun p l e s m args below meth c A C H locs ls hl hP hS => lv_iand C.1 C.2.1 hd (k p l e s m args below meth c A C H locs ls hl hP hS)
theorem xr_ior {x y : Int32} (hd : decode F.2.1 pc = .ok (.ior, 1)) (k : xT G F Q (pc + 1) lv (.int (x ||| y) :: st) I J) : xT G F Q pc lv (.int y :: .int x :: st) I J := fun p l e s m args below meth c A C H locs ls hl hP hS => lv_ior C.1 C.2.1 hd (k p l e s m args below meth c A C H locs ls hl hP hS)
theorem xr_ixor {x y : Int32} (hd : decode F.2.1 pc = .ok (.ixor, 1)) (k : xT G F Q (pc + 1) lv (.int (x ^^^ y) :: st) I J) : xT G F Q pc lv (.int y :: .int x :: st) I J := fun p l e s m args below meth c A C H locs ls hl hP hS => lv_ixor C.1 C.2.1 hd (k p l e s m args below meth c A C H locs ls hl hP hS)
theorem xr_ishl {x y : Int32} (hd : decode F.2.1 pc = .ok (.ishl, 1)) (k : xT G F Q (pc + 1) lv (.int (x <<< (y &&& 31)) :: st) I J) : xT G F Q pc lv (.int y :: .int x :: st) I J := fun p l e s m args below meth c A C H locs ls hl hP hS => lv_ishl C.1 C.2.1 hd (k p l e s m args below meth c A C H locs ls hl hP hS)
theorem xr_ishr {x y : Int32} (hd : decode F.2.1 pc = .ok (.ishr, 1)) (k : xT G F Q (pc + 1) lv (.int (x >>> (y &&& 31)) :: st) I J) : xT G F Q pc lv (.int y :: .int x :: st) I J := fun p l e s m args below meth c A C H locs ls hl hP hS => lv_ishr C.1 C.2.1 hd (k p l e s m args below meth c A C H locs ls hl hP hS)
theorem xr_idiv {x y : Int32} (hd : decode F.2.1 pc = .ok (.idiv, 1)) (hne : ¬ y = 0) (k : xT G F Q (pc + 1) lv (.int (x / y) :: st) I J) : xT G F Q pc lv (.int y :: .int x :: st) I J := fun p l e s m args below meth c A C H locs ls hl hP hS => lv_idiv C.1 C.2.1 hd hne (k p l e s m args below meth c A C H locs ls hl hP hS)
theorem xr_irem {x y : Int32} (hd : decode F.2.1 pc = .ok (.irem, 1)) (hne : ¬ y = 0) (k : xT G F Q (pc + 1) lv (.int (x - x / y * y) :: st) I J) : xT G F Q pc lv (.int y :: .int x :: st) I J := fun p l e s m args below meth c A C H locs ls hl hP hS => lv_irem C.1 C.2.1 hd hne (k p l e s m args below meth c A C H locs ls hl hP hS)
theorem xr_ladd {x y : Int64} (hd : decode F.2.1 pc = .ok (.ladd, 1)) (k : xT G F Q (pc + 1) lv (.long (x + y) :: st) I J) : xT G F Q pc lv (.long y :: .long x :: st) I J := fun p l e s m args below meth c A C H locs ls hl hP hS => lv_ladd C.1 C.2.1 hd (k p l e s m args below meth c A C H locs ls hl hP hS)
theorem xr_lsub {x y : Int64} (hd : decode F.2.1 pc = .ok (.lsub, 1)) (k : xT G F Q (pc + 1) lv (.long (x - y) :: st) I J) : xT G F Q pc lv (.long y :: .long x :: st) I J := fun p l e s m args below meth c A C H locs ls hl hP hS => lv_lsub C.1 C.2.1 hd (k p l e s m args below meth c A C H locs ls hl hP hS)
theorem xr_lmul {x y : Int64} (hd : decode F.2.1 pc = .ok (.lmul, 1)) (k : xT G F Q (pc + 1) lv (.long (x * y) :: st) I J) : xT G F Q pc lv (.long y :: .long x :: st) I J := fun p l e s m args below meth c A C H locs ls hl hP hS => lv_lmul C.1 C.2.1 hd (k p l e s m args below meth c A C H locs ls hl hP hS)
theorem xr_land {x y : Int64} (hd : decode F.2.1 pc = .ok (.land, 1)) (k : xT G F Q (pc + 1) lv (.long (x &&& y) :: st) I J) : xT G F Q pc lv (.long y :: .long x :: st) I J := fun p l e s m args below meth c A C H locs ls hl hP hS => lv_land C.1 C.2.1 hd (k p l e s m args below meth c A C H locs ls hl hP hS)
theorem xr_lor {x y : Int64} (hd : decode F.2.1 pc = .ok (.lor, 1)) (k : xT G F Q (pc + 1) lv (.long (x ||| y) :: st) I J) : xT G F Q pc lv (.long y :: .long x :: st) I J := fun p l e s m args below meth c A C H locs ls hl hP hS => lv_lor C.1 C.2.1 hd (k p l e s m args below meth c A C H locs ls hl hP hS)
theorem xr_ldiv {x y : Int64} (hd : decode F.2.1 pc = .ok (.ldiv, 1)) (hne : ¬ y = 0) (k : xT G F Q (pc + 1) lv (.long (x / y) :: st) I J) : xT G F Q pc lv (.long y :: .long x :: st) I J := fun p l e s m args below meth c A C H locs ls hl hP hS => lv_ldiv C.1 C.2.1 hd hne (k p l e s m args below meth c A C H locs ls hl hP hS)
theorem xr_lrem {x y : Int64} (hd : decode F.2.1 pc = .ok (.lrem, 1)) (hne : ¬ y = 0) (k : xT G F Q (pc + 1) lv (.long (x - x / y * y) :: st) I J) : xT G F Q pc lv (.long y :: .long x :: st) I J := fun p l e s m args below meth c A C H locs ls hl hP hS => lv_lrem C.1 C.2.1 hd hne (k p l e s m args below meth c A C H locs ls hl hP hS)
theorem xr_ineg {x : Int32} (hd : decode F.2.1 pc = .ok (.ineg, 1)) (k : xT G F Q (pc + 1) lv (.int (-x) :: st) I J) : xT G F Q pc lv (.int x :: st) I J := fun p l e s m args below meth c A C H locs ls hl hP hS => lv_ineg C.1 C.2.1 hd (k p l e s m args below meth c A C H locs ls hl hP hS)
theorem xr_i2l {x : Int32} (hd : decode F.2.1 pc = .ok (.i2l, 1)) (k : xT G F Q (pc + 1) lv (.long x.toInt64 :: st) I J) : xT G F Q pc lv (.int x :: st) I J := fun p l e s m args below meth c A C H locs ls hl hP hS => lv_i2l C.1 C.2.1 hd rfl (k p l e s m args below meth c A C H locs ls hl hP hS)
theorem xr_l2i {x : Int64} (hd : decode F.2.1 pc = .ok (.l2i, 1)) (k : xT G F Q (pc + 1) lv (.int x.toInt32 :: st) I J) : xT G F Q pc lv (.long x :: st) I J := fun p l e s m args below meth c A C H locs ls hl hP hS => lv_l2i C.1 C.2.1 hd rfl (k p l e s m args below meth c A C H locs ls hl hP hS)
theorem xr_i2b {x : Int32} (hd : decode F.2.1 pc = .ok (.i2b, 1)) (k : xT G F Q (pc + 1) lv (.int x.toInt8.toInt32 :: st) I J) : xT G F Q pc lv (.int x :: st) I J := fun p l e s m args below meth c A C H locs ls hl hP hS => lv_i2b C.1 C.2.1 hd rfl (k p l e s m args below meth c A C H locs ls hl hP hS)
theorem xr_i2s {x : Int32} (hd : decode F.2.1 pc = .ok (.i2s, 1)) (k : xT G F Q (pc + 1) lv (.int x.toInt16.toInt32 :: st) I J) : xT G F Q pc lv (.int x :: st) I J := fun p l e s m args below meth c A C H locs ls hl hP hS => lv_i2s C.1 C.2.1 hd rfl (k p l e s m args below meth c A C H locs ls hl hP hS)
theorem xr_iushr {x y : Int32} (hd : decode F.2.1 pc = .ok (.iushr, 1)) (k : xT G F Q (pc + 1) lv (.int (x.toUInt32 >>> (y.toUInt32 &&& Int32.toUInt32 31)).toInt32 :: st) I J) : xT G F Q pc lv (.int y :: .int x :: st) I J := fun p l e s m args below meth c A C H locs ls hl hP hS => lv_iushr C.1 C.2.1 hd rfl (k p l e s m args below meth c A C H locs ls hl hP hS)
theorem xr_lushr {x : Int64} {y : Int32} (hd : decode F.2.1 pc = .ok (.lushr, 1)) (k : xT G F Q (pc + 1) lv (.long (x.toUInt64 >>> (y.toInt64.toUInt64 &&& Int64.toUInt64 63)).toInt64 :: st) I J) : xT G F Q pc lv (.int y :: .long x :: st) I J := fun p l e s m args below meth c A C H locs ls hl hP hS => lv_lushr C.1 C.2.1 hd rfl (k p l e s m args below meth c A C H locs ls hl hP hS)
theorem xr_lshl {x : Int64} {y : Int32} (hd : decode F.2.1 pc = .ok (.lshl, 1)) (k : xT G F Q (pc + 1) lv (.long (x <<< (y.toInt64 &&& 63)) :: st) I J) : xT G F Q pc lv (.int y :: .long x :: st) I J := fun p l e s m args below meth c A C H locs ls hl hP hS => lv_lshl C.1 C.2.1 hd rfl (k p l e s m args below meth c A C H locs ls hl hP hS)
theorem xr_lcmp {x y : Int64} (hd : decode F.2.1 pc = .ok (.lcmp, 1)) (k : xT G F Q (pc + 1) lv (.int (lg_cmp x y) :: st) I J) : xT G F Q pc lv (.long y :: .long x :: st) I J := fun p l e s m args below meth c A C H locs ls hl hP hS => W.lcmp C.1 C.2.1 hd (k p l e s m args below meth c A C H locs ls hl hP hS)
theorem xr_icm1 (hd : decode F.2.1 pc = .ok (.iconst (-1), 1)) (k : xT G F Q (pc + 1) lv (.int (-1) :: st) I J) : xT G F Q pc lv (st) I J := fun p l e s m args below meth c A C H locs ls hl hP hS => lv_iconst (v := -1) C.1 C.2.1 hd (by decide) (k p l e s m args below meth c A C H locs ls hl hP hS)
theorem xr_ic0 (hd : decode F.2.1 pc = .ok (.iconst (0), 1)) (k : xT G F Q (pc + 1) lv (.int (0) :: st) I J) : xT G F Q pc lv (st) I J := fun p l e s m args below meth c A C H locs ls hl hP hS => lv_iconst (v := 0) C.1 C.2.1 hd (by decide) (k p l e s m args below meth c A C H locs ls hl hP hS)
theorem xr_ic1 (hd : decode F.2.1 pc = .ok (.iconst (1), 1)) (k : xT G F Q (pc + 1) lv (.int (1) :: st) I J) : xT G F Q pc lv (st) I J := fun p l e s m args below meth c A C H locs ls hl hP hS => lv_iconst (v := 1) C.1 C.2.1 hd (by decide) (k p l e s m args below meth c A C H locs ls hl hP hS)
theorem xr_ic2 (hd : decode F.2.1 pc = .ok (.iconst (2), 1)) (k : xT G F Q (pc + 1) lv (.int (2) :: st) I J) : xT G F Q pc lv (st) I J := fun p l e s m args below meth c A C H locs ls hl hP hS => lv_iconst (v := 2) C.1 C.2.1 hd (by decide) (k p l e s m args below meth c A C H locs ls hl hP hS)
theorem xr_ic3 (hd : decode F.2.1 pc = .ok (.iconst (3), 1)) (k : xT G F Q (pc + 1) lv (.int (3) :: st) I J) : xT G F Q pc lv (st) I J := fun p l e s m args below meth c A C H locs ls hl hP hS => lv_iconst (v := 3) C.1 C.2.1 hd (by decide) (k p l e s m args below meth c A C H locs ls hl hP hS)
theorem xr_ic4 (hd : decode F.2.1 pc = .ok (.iconst (4), 1)) (k : xT G F Q (pc + 1) lv (.int (4) :: st) I J) : xT G F Q pc lv (st) I J := fun p l e s m args below meth c A C H locs ls hl hP hS => lv_iconst (v := 4) C.1 C.2.1 hd (by decide) (k p l e s m args below meth c A C H locs ls hl hP hS)
theorem xr_ic5 (hd : decode F.2.1 pc = .ok (.iconst (5), 1)) (k : xT G F Q (pc + 1) lv (.int (5) :: st) I J) : xT G F Q pc lv (st) I J := fun p l e s m args below meth c A C H locs ls hl hP hS => lv_iconst (v := 5) C.1 C.2.1 hd (by decide) (k p l e s m args below meth c A C H locs ls hl hP hS)
theorem xr_lc0 (hd : decode F.2.1 pc = .ok (.lconst 0, 1)) (k : xT G F Q (pc + 1) lv (.long 0 :: st) I J) : xT G F Q pc lv (st) I J := fun p l e s m args below meth c A C H locs ls hl hP hS => lv_lconst (v := 0) C.1 C.2.1 hd (by decide) (k p l e s m args below meth c A C H locs ls hl hP hS)
theorem xr_lc1 (hd : decode F.2.1 pc = .ok (.lconst 1, 1)) (k : xT G F Q (pc + 1) lv (.long 1 :: st) I J) : xT G F Q pc lv (st) I J := fun p l e s m args below meth c A C H locs ls hl hP hS => lv_lconst (v := 1) C.1 C.2.1 hd (by decide) (k p l e s m args below meth c A C H locs ls hl hP hS)
theorem xr_bip {n : Int} {v : Int32} (hv : (Int8.ofInt n).toInt32 = v) (hd : decode F.2.1 pc = .ok (.bipush n, 2)) (k : xT G F Q (pc + 2) lv (.int v :: st) I J) : xT G F Q pc lv (st) I J := fun p l e s m args below meth c A C H locs ls hl hP hS => lv_bipush C.1 C.2.1 hd hv (k p l e s m args below meth c A C H locs ls hl hP hS)
theorem xr_sip {n : Int} {v : Int32} (hv : (Int16.ofInt n).toInt32 = v) (hd : decode F.2.1 pc = .ok (.sipush n, 3)) (k : xT G F Q (pc + 3) lv (.int v :: st) I J) : xT G F Q pc lv (st) I J := fun p l e s m args below meth c A C H locs ls hl hP hS => lv_sipush C.1 C.2.1 hd hv (k p l e s m args below meth c A C H locs ls hl hP hS)
theorem xr_ldc {ix : Nat} {v : Int32} (hw : Cond.constant F.1.cls ix v ∈ xw) (hd : decode F.2.1 pc = .ok (.ldc ix, 2)) (k : xT G F Q (pc + 2) lv (.int v :: st) I J) : xT G F Q pc lv (st) I J := fun p l e s m args below meth c A C H locs ls hl hP hS => lv_ldc C.1 C.2.1 C.2.2.2.1 (C.2.2.2.2.1 _ hw) hd (k p l e s m args below meth c A C H locs ls hl hP hS)
theorem xr_ldc2 {ix : Nat} {v : Int64} (hw : Cond.constantLong F.1.cls ix v ∈ xw) (hd : decode F.2.1 pc = .ok (.ldc2_w ix, 3)) (k : xT G F Q (pc + 3) lv (.long v :: st) I J) : xT G F Q pc lv (st) I J := fun p l e s m args below meth c A C H locs ls hl hP hS => lv_ldc2 C.1 C.2.1 C.2.2.2.1 (C.2.2.2.2.1 _ hw) hd (k p l e s m args below meth c A C H locs ls hl hP hS)
theorem xr_iload {i : Nat} {x : Int32} (hd : decode F.2.1 pc = .ok (.iload i, 2)) (hv : lv[i]? = some (some (.int x))) (k : xT G F Q (pc + 2) lv (.int x :: st) I J) : xT G F Q pc lv (st) I J := fun p l e s m args below meth c A C H locs ls hl hP hS => lv_iload C.1 C.2.1 hd (xhas_at hl hv) (k p l e s m args below meth c A C H locs ls hl hP hS)
theorem xr_iload0 {x : Int32} (hd : decode F.2.1 pc = .ok (.iload_n 0, 1)) (hv : lv[0]? = some (some (.int x))) (k : xT G F Q (pc + 1) lv (.int x :: st) I J) : xT G F Q pc lv (st) I J := fun p l e s m args below meth c A C H locs ls hl hP hS => lv_iload_n C.1 C.2.1 hd rfl (xhas_at hl hv) (k p l e s m args below meth c A C H locs ls hl hP hS)
theorem xr_iload1 {x : Int32} (hd : decode F.2.1 pc = .ok (.iload_n 1, 1)) (hv : lv[1]? = some (some (.int x))) (k : xT G F Q (pc + 1) lv (.int x :: st) I J) : xT G F Q pc lv (st) I J := fun p l e s m args below meth c A C H locs ls hl hP hS => lv_iload_n C.1 C.2.1 hd rfl (xhas_at hl hv) (k p l e s m args below meth c A C H locs ls hl hP hS)
theorem xr_iload2 {x : Int32} (hd : decode F.2.1 pc = .ok (.iload_n 2, 1)) (hv : lv[2]? = some (some (.int x))) (k : xT G F Q (pc + 1) lv (.int x :: st) I J) : xT G F Q pc lv (st) I J := fun p l e s m args below meth c A C H locs ls hl hP hS => lv_iload_n C.1 C.2.1 hd rfl (xhas_at hl hv) (k p l e s m args below meth c A C H locs ls hl hP hS)
theorem xr_iload3 {x : Int32} (hd : decode F.2.1 pc = .ok (.iload_n 3, 1)) (hv : lv[3]? = some (some (.int x))) (k : xT G F Q (pc + 1) lv (.int x :: st) I J) : xT G F Q pc lv (st) I J := fun p l e s m args below meth c A C H locs ls hl hP hS => lv_iload_n C.1 C.2.1 hd rfl (xhas_at hl hv) (k p l e s m args below meth c A C H locs ls hl hP hS)
theorem xr_istore {i : Nat} {x : Int32} (hd : decode F.2.1 pc = .ok (.istore i, 2)) (hn : i < F.2.2.1) (k : xT G F Q (pc + 2) (xst1 lv i (.int x)) (st) I J) : xT G F Q pc lv (.int x :: st) I J := fun p l e s m args below meth c A C H locs ls hl hP hS => lv_istore C.1 C.2.1 hd hl hn rfl (fun ls2 h2 => k p l e s m args below meth c A C H locs ls2 (xhas_of h2 (fun q v h => xst1_in q v h)) hP hS)
theorem xr_istore0 {x : Int32} (hd : decode F.2.1 pc = .ok (.istore_n 0, 1)) (hn : 0 < F.2.2.1) (k : xT G F Q (pc + 1) (xst1 lv 0 (.int x)) (st) I J) : xT G F Q pc lv (.int x :: st) I J := fun p l e s m args below meth c A C H locs ls hl hP hS => lv_istore_n (i := 0) C.1 C.2.1 hd rfl hl hn rfl (fun ls2 h2 => k p l e s m args below meth c A C H locs ls2 (xhas_of h2 (fun q v h => xst1_in q v h)) hP hS)
theorem xr_istore1 {x : Int32} (hd : decode F.2.1 pc = .ok (.istore_n 1, 1)) (hn : 1 < F.2.2.1) (k : xT G F Q (pc + 1) (xst1 lv 1 (.int x)) (st) I J) : xT G F Q pc lv (.int x :: st) I J := fun p l e s m args below meth c A C H locs ls hl hP hS => lv_istore_n (i := 1) C.1 C.2.1 hd rfl hl hn rfl (fun ls2 h2 => k p l e s m args below meth c A C H locs ls2 (xhas_of h2 (fun q v h => xst1_in q v h)) hP hS)
theorem xr_istore2 {x : Int32} (hd : decode F.2.1 pc = .ok (.istore_n 2, 1)) (hn : 2 < F.2.2.1) (k : xT G F Q (pc + 1) (xst1 lv 2 (.int x)) (st) I J) : xT G F Q pc lv (.int x :: st) I J := fun p l e s m args below meth c A C H locs ls hl hP hS => lv_istore_n (i := 2) C.1 C.2.1 hd rfl hl hn rfl (fun ls2 h2 => k p l e s m args below meth c A C H locs ls2 (xhas_of h2 (fun q v h => xst1_in q v h)) hP hS)
theorem xr_istore3 {x : Int32} (hd : decode F.2.1 pc = .ok (.istore_n 3, 1)) (hn : 3 < F.2.2.1) (k : xT G F Q (pc + 1) (xst1 lv 3 (.int x)) (st) I J) : xT G F Q pc lv (.int x :: st) I J := fun p l e s m args below meth c A C H locs ls hl hP hS => lv_istore_n (i := 3) C.1 C.2.1 hd rfl hl hn rfl (fun ls2 h2 => k p l e s m args below meth c A C H locs ls2 (xhas_of h2 (fun q v h => xst1_in q v h)) hP hS)
theorem xr_lload {i : Nat} {x : Int64} (hd : decode F.2.1 pc = .ok (.lload i, 2)) (hv : lv[i]? = some (some (.long x))) (k : xT G F Q (pc + 2) lv (.long x :: st) I J) : xT G F Q pc lv (st) I J := fun p l e s m args below meth c A C H locs ls hl hP hS => lv_lload C.1 C.2.1 hd (xhas_at hl hv) (k p l e s m args below meth c A C H locs ls hl hP hS)
theorem xr_lload0 {x : Int64} (hd : decode F.2.1 pc = .ok (.lload_n 0, 1)) (hv : lv[0]? = some (some (.long x))) (k : xT G F Q (pc + 1) lv (.long x :: st) I J) : xT G F Q pc lv (st) I J := fun p l e s m args below meth c A C H locs ls hl hP hS => lv_lload_n C.1 C.2.1 hd rfl (xhas_at hl hv) (k p l e s m args below meth c A C H locs ls hl hP hS)
theorem xr_lload1 {x : Int64} (hd : decode F.2.1 pc = .ok (.lload_n 1, 1)) (hv : lv[1]? = some (some (.long x))) (k : xT G F Q (pc + 1) lv (.long x :: st) I J) : xT G F Q pc lv (st) I J := fun p l e s m args below meth c A C H locs ls hl hP hS => lv_lload_n C.1 C.2.1 hd rfl (xhas_at hl hv) (k p l e s m args below meth c A C H locs ls hl hP hS)
theorem xr_lload2 {x : Int64} (hd : decode F.2.1 pc = .ok (.lload_n 2, 1)) (hv : lv[2]? = some (some (.long x))) (k : xT G F Q (pc + 1) lv (.long x :: st) I J) : xT G F Q pc lv (st) I J := fun p l e s m args below meth c A C H locs ls hl hP hS => lv_lload_n C.1 C.2.1 hd rfl (xhas_at hl hv) (k p l e s m args below meth c A C H locs ls hl hP hS)
theorem xr_lload3 {x : Int64} (hd : decode F.2.1 pc = .ok (.lload_n 3, 1)) (hv : lv[3]? = some (some (.long x))) (k : xT G F Q (pc + 1) lv (.long x :: st) I J) : xT G F Q pc lv (st) I J := fun p l e s m args below meth c A C H locs ls hl hP hS => lv_lload_n C.1 C.2.1 hd rfl (xhas_at hl hv) (k p l e s m args below meth c A C H locs ls hl hP hS)
theorem xr_lstore {i : Nat} {x : Int64} (hd : decode F.2.1 pc = .ok (.lstore i, 2)) (hn : i + 1 < F.2.2.1) (k : xT G F Q (pc + 2) (xst2 lv i (.long x)) (st) I J) : xT G F Q pc lv (.long x :: st) I J := fun p l e s m args below meth c A C H locs ls hl hP hS => lv_lstore C.1 C.2.1 hd hl hn rfl (fun ls2 h2 => k p l e s m args below meth c A C H locs ls2 (xhas_of h2 (fun q v h => xst2_in q v h)) hP hS)
theorem xr_lstore0 {x : Int64} (hd : decode F.2.1 pc = .ok (.lstore_n 0, 1)) (hn : 1 < F.2.2.1) (k : xT G F Q (pc + 1) (xst2 lv 0 (.long x)) (st) I J) : xT G F Q pc lv (.long x :: st) I J := fun p l e s m args below meth c A C H locs ls hl hP hS => lv_lstore_n (i := 0) C.1 C.2.1 hd rfl hl hn rfl (fun ls2 h2 => k p l e s m args below meth c A C H locs ls2 (xhas_of h2 (fun q v h => xst2_in q v h)) hP hS)
theorem xr_lstore1 {x : Int64} (hd : decode F.2.1 pc = .ok (.lstore_n 1, 1)) (hn : 2 < F.2.2.1) (k : xT G F Q (pc + 1) (xst2 lv 1 (.long x)) (st) I J) : xT G F Q pc lv (.long x :: st) I J := fun p l e s m args below meth c A C H locs ls hl hP hS => lv_lstore_n (i := 1) C.1 C.2.1 hd rfl hl hn rfl (fun ls2 h2 => k p l e s m args below meth c A C H locs ls2 (xhas_of h2 (fun q v h => xst2_in q v h)) hP hS)
theorem xr_lstore2 {x : Int64} (hd : decode F.2.1 pc = .ok (.lstore_n 2, 1)) (hn : 3 < F.2.2.1) (k : xT G F Q (pc + 1) (xst2 lv 2 (.long x)) (st) I J) : xT G F Q pc lv (.long x :: st) I J := fun p l e s m args below meth c A C H locs ls hl hP hS => lv_lstore_n (i := 2) C.1 C.2.1 hd rfl hl hn rfl (fun ls2 h2 => k p l e s m args below meth c A C H locs ls2 (xhas_of h2 (fun q v h => xst2_in q v h)) hP hS)
theorem xr_lstore3 {x : Int64} (hd : decode F.2.1 pc = .ok (.lstore_n 3, 1)) (hn : 4 < F.2.2.1) (k : xT G F Q (pc + 1) (xst2 lv 3 (.long x)) (st) I J) : xT G F Q pc lv (.long x :: st) I J := fun p l e s m args below meth c A C H locs ls hl hP hS => lv_lstore_n (i := 3) C.1 C.2.1 hd rfl hl hn rfl (fun ls2 h2 => k p l e s m args below meth c A C H locs ls2 (xhas_of h2 (fun q v h => xst2_in q v h)) hP hS)
theorem xr_aload {i : Nat} {x : Nat} (hd : decode F.2.1 pc = .ok (.aload i, 2)) (hv : lv[i]? = some (some (.ref x))) (k : xT G F Q (pc + 2) lv (.ref x :: st) I J) : xT G F Q pc lv (st) I J := fun p l e s m args below meth c A C H locs ls hl hP hS => lv_aload C.1 C.2.1 hd (xhas_at hl hv) (k p l e s m args below meth c A C H locs ls hl hP hS)
theorem xr_aload0 {x : Nat} (hd : decode F.2.1 pc = .ok (.aload_n 0, 1)) (hv : lv[0]? = some (some (.ref x))) (k : xT G F Q (pc + 1) lv (.ref x :: st) I J) : xT G F Q pc lv (st) I J := fun p l e s m args below meth c A C H locs ls hl hP hS => lv_aload_n C.1 C.2.1 hd rfl (xhas_at hl hv) (k p l e s m args below meth c A C H locs ls hl hP hS)
theorem xr_aload1 {x : Nat} (hd : decode F.2.1 pc = .ok (.aload_n 1, 1)) (hv : lv[1]? = some (some (.ref x))) (k : xT G F Q (pc + 1) lv (.ref x :: st) I J) : xT G F Q pc lv (st) I J := fun p l e s m args below meth c A C H locs ls hl hP hS => lv_aload_n C.1 C.2.1 hd rfl (xhas_at hl hv) (k p l e s m args below meth c A C H locs ls hl hP hS)
theorem xr_aload2 {x : Nat} (hd : decode F.2.1 pc = .ok (.aload_n 2, 1)) (hv : lv[2]? = some (some (.ref x))) (k : xT G F Q (pc + 1) lv (.ref x :: st) I J) : xT G F Q pc lv (st) I J := fun p l e s m args below meth c A C H locs ls hl hP hS => lv_aload_n C.1 C.2.1 hd rfl (xhas_at hl hv) (k p l e s m args below meth c A C H locs ls hl hP hS)
theorem xr_aload3 {x : Nat} (hd : decode F.2.1 pc = .ok (.aload_n 3, 1)) (hv : lv[3]? = some (some (.ref x))) (k : xT G F Q (pc + 1) lv (.ref x :: st) I J) : xT G F Q pc lv (st) I J := fun p l e s m args below meth c A C H locs ls hl hP hS => lv_aload_n C.1 C.2.1 hd rfl (xhas_at hl hv) (k p l e s m args below meth c A C H locs ls hl hP hS)
theorem xr_astore {i : Nat} {x : Nat} (hd : decode F.2.1 pc = .ok (.astore i, 2)) (hn : i < F.2.2.1) (k : xT G F Q (pc + 2) (xst1 lv i (.ref x)) (st) I J) : xT G F Q pc lv (.ref x :: st) I J := fun p l e s m args below meth c A C H locs ls hl hP hS => lv_astore C.1 C.2.1 hd hl hn rfl (fun ls2 h2 => k p l e s m args below meth c A C H locs ls2 (xhas_of h2 (fun q v h => xst1_in q v h)) hP hS)
theorem xr_astore0 {x : Nat} (hd : decode F.2.1 pc = .ok (.astore_n 0, 1)) (hn : 0 < F.2.2.1) (k : xT G F Q (pc + 1) (xst1 lv 0 (.ref x)) (st) I J) : xT G F Q pc lv (.ref x :: st) I J := fun p l e s m args below meth c A C H locs ls hl hP hS => lv_astore_n (i := 0) C.1 C.2.1 hd rfl hl hn rfl (fun ls2 h2 => k p l e s m args below meth c A C H locs ls2 (xhas_of h2 (fun q v h => xst1_in q v h)) hP hS)
theorem xr_astore1 {x : Nat} (hd : decode F.2.1 pc = .ok (.astore_n 1, 1)) (hn : 1 < F.2.2.1) (k : xT G F Q (pc + 1) (xst1 lv 1 (.ref x)) (st) I J) : xT G F Q pc lv (.ref x :: st) I J := fun p l e s m args below meth c A C H locs ls hl hP hS => lv_astore_n (i := 1) C.1 C.2.1 hd rfl hl hn rfl (fun ls2 h2 => k p l e s m args below meth c A C H locs ls2 (xhas_of h2 (fun q v h => xst1_in q v h)) hP hS)
theorem xr_astore2 {x : Nat} (hd : decode F.2.1 pc = .ok (.astore_n 2, 1)) (hn : 2 < F.2.2.1) (k : xT G F Q (pc + 1) (xst1 lv 2 (.ref x)) (st) I J) : xT G F Q pc lv (.ref x :: st) I J := fun p l e s m args below meth c A C H locs ls hl hP hS => lv_astore_n (i := 2) C.1 C.2.1 hd rfl hl hn rfl (fun ls2 h2 => k p l e s m args below meth c A C H locs ls2 (xhas_of h2 (fun q v h => xst1_in q v h)) hP hS)
theorem xr_astore3 {x : Nat} (hd : decode F.2.1 pc = .ok (.astore_n 3, 1)) (hn : 3 < F.2.2.1) (k : xT G F Q (pc + 1) (xst1 lv 3 (.ref x)) (st) I J) : xT G F Q pc lv (.ref x :: st) I J := fun p l e s m args below meth c A C H locs ls hl hP hS => lv_astore_n (i := 3) C.1 C.2.1 hd rfl hl hn rfl (fun ls2 h2 => k p l e s m args below meth c A C H locs ls2 (xhas_of h2 (fun q v h => xst1_in q v h)) hP hS)
theorem xr_iinc {i : Nat} {n : Int} {x d : Int32} (hd : decode F.2.1 pc = .ok (.iinc i n, 3)) (hv : lv[i]? = some (some (.int x))) (he : Int32.ofInt n = d) (hn : i < F.2.2.1) (k : xT G F Q (pc + 3) (xst1 lv i (.int (x + d))) st I J) : xT G F Q pc lv st I J := by
  intro p l e s m args below meth c A C H locs ls hl hP hS
  obtain ⟨q, hq⟩ := List.getElem?_of_mem ((xal_mem lv 0 (i, .int x)).mpr ⟨Nat.zero_le _, hv⟩)
  exact lv_iinc C.1 C.2.1 hd hl hq (by rw [he]) hn rfl (fun ls2 h2 => k p l e s m args below meth c A C H locs ls2 (xhas_of h2 (fun q v h => xst1_in q v h)) hP hS)
theorem xr_dup {va : Value} (hd : decode F.2.1 pc = .ok (.dup, 1)) (hva : va.category = 1) (k : xT G F Q (pc + 1) lv (va :: va :: st) I J) : xT G F Q pc lv (va :: st) I J := fun p l e s m args below meth c A C H locs ls hl hP hS => lv_dup C.1 C.2.1 hd hva (k p l e s m args below meth c A C H locs ls hl hP hS)
theorem xr_pop {va : Value} (hd : decode F.2.1 pc = .ok (.pop, 1)) (hva : va.category = 1) (k : xT G F Q (pc + 1) lv (st) I J) : xT G F Q pc lv (va :: st) I J := fun p l e s m args below meth c A C H locs ls hl hP hS => lv_pop C.1 C.2.1 hd hva (k p l e s m args below meth c A C H locs ls hl hP hS)
theorem xr_dup_x1 {va vb : Value} (hd : decode F.2.1 pc = .ok (.dup_x1, 1)) (hva : va.category = 1) (hvb : vb.category = 1) (k : xT G F Q (pc + 1) lv (va :: vb :: va :: st) I J) : xT G F Q pc lv (va :: vb :: st) I J := fun p l e s m args below meth c A C H locs ls hl hP hS => lv_dup_x1 C.1 C.2.1 hd hva hvb (k p l e s m args below meth c A C H locs ls hl hP hS)
theorem xr_if_eq {x : Int32} {off : Int} (tgt : Nat) (hd : decode F.2.1 pc = .ok (.ifCond .eq off, 3)) (ht : (pc : Int) + off = (tgt : Int)) (kt : x = 0 → xT G F Q tgt lv (st) I J) (kf : ¬ x = 0 → xT G F Q (pc + 3) lv (st) I J) : xT G F Q pc lv (.int x :: st) I J := fun p l e s m args below meth c A C H locs ls hl hP hS => lv_if_eq C.1 C.2.1 hd ht (fun h => kt h p l e s m args below meth c A C H locs ls hl hP hS) (fun h => kf h p l e s m args below meth c A C H locs ls hl hP hS)
theorem xr_icmp_eq {x y : Int32} {off : Int} (tgt : Nat) (hd : decode F.2.1 pc = .ok (.if_icmp .eq off, 3)) (ht : (pc : Int) + off = (tgt : Int)) (kt : x = y → xT G F Q tgt lv (st) I J) (kf : ¬ x = y → xT G F Q (pc + 3) lv (st) I J) : xT G F Q pc lv (.int y :: .int x :: st) I J := fun p l e s m args below meth c A C H locs ls hl hP hS => lv_icmp_eq C.1 C.2.1 hd ht (fun h => kt h p l e s m args below meth c A C H locs ls hl hP hS) (fun h => kf h p l e s m args below meth c A C H locs ls hl hP hS)
theorem xr_if_ne {x : Int32} {off : Int} (tgt : Nat) (hd : decode F.2.1 pc = .ok (.ifCond .ne off, 3)) (ht : (pc : Int) + off = (tgt : Int)) (kt : ¬ x = 0 → xT G F Q tgt lv (st) I J) (kf : x = 0 → xT G F Q (pc + 3) lv (st) I J) : xT G F Q pc lv (.int x :: st) I J := fun p l e s m args below meth c A C H locs ls hl hP hS => lv_if_ne C.1 C.2.1 hd ht (fun h => kt h p l e s m args below meth c A C H locs ls hl hP hS) (fun h => kf h p l e s m args below meth c A C H locs ls hl hP hS)
theorem xr_icmp_ne {x y : Int32} {off : Int} (tgt : Nat) (hd : decode F.2.1 pc = .ok (.if_icmp .ne off, 3)) (ht : (pc : Int) + off = (tgt : Int)) (kt : ¬ x = y → xT G F Q tgt lv (st) I J) (kf : x = y → xT G F Q (pc + 3) lv (st) I J) : xT G F Q pc lv (.int y :: .int x :: st) I J := fun p l e s m args below meth c A C H locs ls hl hP hS => lv_icmp_ne C.1 C.2.1 hd ht (fun h => kt h p l e s m args below meth c A C H locs ls hl hP hS) (fun h => kf h p l e s m args below meth c A C H locs ls hl hP hS)
theorem xr_if_lt {x : Int32} {off : Int} (tgt : Nat) (hd : decode F.2.1 pc = .ok (.ifCond .lt off, 3)) (ht : (pc : Int) + off = (tgt : Int)) (kt : x < 0 → xT G F Q tgt lv (st) I J) (kf : ¬ x < 0 → xT G F Q (pc + 3) lv (st) I J) : xT G F Q pc lv (.int x :: st) I J := fun p l e s m args below meth c A C H locs ls hl hP hS => lv_if_lt C.1 C.2.1 hd ht (fun h => kt h p l e s m args below meth c A C H locs ls hl hP hS) (fun h => kf h p l e s m args below meth c A C H locs ls hl hP hS)
theorem xr_icmp_lt {x y : Int32} {off : Int} (tgt : Nat) (hd : decode F.2.1 pc = .ok (.if_icmp .lt off, 3)) (ht : (pc : Int) + off = (tgt : Int)) (kt : x < y → xT G F Q tgt lv (st) I J) (kf : ¬ x < y → xT G F Q (pc + 3) lv (st) I J) : xT G F Q pc lv (.int y :: .int x :: st) I J := fun p l e s m args below meth c A C H locs ls hl hP hS => lv_icmp_lt C.1 C.2.1 hd ht (fun h => kt h p l e s m args below meth c A C H locs ls hl hP hS) (fun h => kf h p l e s m args below meth c A C H locs ls hl hP hS)
theorem xr_if_ge {x : Int32} {off : Int} (tgt : Nat) (hd : decode F.2.1 pc = .ok (.ifCond .ge off, 3)) (ht : (pc : Int) + off = (tgt : Int)) (kt : 0 ≤ x → xT G F Q tgt lv (st) I J) (kf : ¬ 0 ≤ x → xT G F Q (pc + 3) lv (st) I J) : xT G F Q pc lv (.int x :: st) I J := fun p l e s m args below meth c A C H locs ls hl hP hS => lv_if_ge C.1 C.2.1 hd ht (fun h => kt h p l e s m args below meth c A C H locs ls hl hP hS) (fun h => kf h p l e s m args below meth c A C H locs ls hl hP hS)
theorem xr_icmp_ge {x y : Int32} {off : Int} (tgt : Nat) (hd : decode F.2.1 pc = .ok (.if_icmp .ge off, 3)) (ht : (pc : Int) + off = (tgt : Int)) (kt : y ≤ x → xT G F Q tgt lv (st) I J) (kf : ¬ y ≤ x → xT G F Q (pc + 3) lv (st) I J) : xT G F Q pc lv (.int y :: .int x :: st) I J := fun p l e s m args below meth c A C H locs ls hl hP hS => lv_icmp_ge C.1 C.2.1 hd ht (fun h => kt h p l e s m args below meth c A C H locs ls hl hP hS) (fun h => kf h p l e s m args below meth c A C H locs ls hl hP hS)
theorem xr_if_gt {x : Int32} {off : Int} (tgt : Nat) (hd : decode F.2.1 pc = .ok (.ifCond .gt off, 3)) (ht : (pc : Int) + off = (tgt : Int)) (kt : 0 < x → xT G F Q tgt lv (st) I J) (kf : ¬ 0 < x → xT G F Q (pc + 3) lv (st) I J) : xT G F Q pc lv (.int x :: st) I J := fun p l e s m args below meth c A C H locs ls hl hP hS => lv_if_gt C.1 C.2.1 hd ht (fun h => kt h p l e s m args below meth c A C H locs ls hl hP hS) (fun h => kf h p l e s m args below meth c A C H locs ls hl hP hS)
theorem xr_icmp_gt {x y : Int32} {off : Int} (tgt : Nat) (hd : decode F.2.1 pc = .ok (.if_icmp .gt off, 3)) (ht : (pc : Int) + off = (tgt : Int)) (kt : y < x → xT G F Q tgt lv (st) I J) (kf : ¬ y < x → xT G F Q (pc + 3) lv (st) I J) : xT G F Q pc lv (.int y :: .int x :: st) I J := fun p l e s m args below meth c A C H locs ls hl hP hS => lv_icmp_gt C.1 C.2.1 hd ht (fun h => kt h p l e s m args below meth c A C H locs ls hl hP hS) (fun h => kf h p l e s m args below meth c A C H locs ls hl hP hS)
theorem xr_if_le {x : Int32} {off : Int} (tgt : Nat) (hd : decode F.2.1 pc = .ok (.ifCond .le off, 3)) (ht : (pc : Int) + off = (tgt : Int)) (kt : x ≤ 0 → xT G F Q tgt lv (st) I J) (kf : ¬ x ≤ 0 → xT G F Q (pc + 3) lv (st) I J) : xT G F Q pc lv (.int x :: st) I J := fun p l e s m args below meth c A C H locs ls hl hP hS => lv_if_le C.1 C.2.1 hd ht (fun h => kt h p l e s m args below meth c A C H locs ls hl hP hS) (fun h => kf h p l e s m args below meth c A C H locs ls hl hP hS)
theorem xr_icmp_le {x y : Int32} {off : Int} (tgt : Nat) (hd : decode F.2.1 pc = .ok (.if_icmp .le off, 3)) (ht : (pc : Int) + off = (tgt : Int)) (kt : x ≤ y → xT G F Q tgt lv (st) I J) (kf : ¬ x ≤ y → xT G F Q (pc + 3) lv (st) I J) : xT G F Q pc lv (.int y :: .int x :: st) I J := fun p l e s m args below meth c A C H locs ls hl hP hS => lv_icmp_le C.1 C.2.1 hd ht (fun h => kt h p l e s m args below meth c A C H locs ls hl hP hS) (fun h => kf h p l e s m args below meth c A C H locs ls hl hP hS)
theorem xr_goto {off : Int} (tgt : Nat) (hd : decode F.2.1 pc = .ok (.goto off, 3)) (ht : (pc : Int) + off = (tgt : Int)) (k : xT G F Q tgt lv (st) I J) : xT G F Q pc lv (st) I J := fun p l e s m args below meth c A C H locs ls hl hP hS => lv_goto C.1 C.2.1 hd ht (k p l e s m args below meth c A C H locs ls hl hP hS)
theorem xr_tabOut {dflt lo hi : Int} {offs : Array Int} {len : Nat} {x : Int32} (tgt : Nat) (hd : decode F.2.1 pc = .ok (.tableswitch dflt lo hi offs, len)) (h : x.toInt < lo ∨ hi < x.toInt) (ht : (pc : Int) + dflt = (tgt : Int)) (k : xT G F Q tgt lv (st) I J) : xT G F Q pc lv (.int x :: st) I J := fun p l e s m args below meth c A C H locs ls hl hP hS => lv_tableOut C.1 C.2.1 hd h ht (k p l e s m args below meth c A C H locs ls hl hP hS)
theorem xr_tabIn {dflt lo hi off : Int} {offs : Array Int} {len : Nat} {x : Int32} (tgt : Nat) (hd : decode F.2.1 pc = .ok (.tableswitch dflt lo hi offs, len)) (h1 : ¬ x.toInt < lo) (h2 : ¬ hi < x.toInt) (ho : offs[(x.toInt - lo).toNat]? = some off) (ht : (pc : Int) + off = (tgt : Int)) (k : xT G F Q tgt lv (st) I J) : xT G F Q pc lv (.int x :: st) I J := fun p l e s m args below meth c A C H locs ls hl hP hS => lv_tableIn C.1 C.2.1 hd h1 h2 ho ht (k p l e s m args below meth c A C H locs ls hl hP hS)
theorem xr_look {dflt off : Int} {ps : Array (Int × Int)} {len : Nat} {x : Int32} (tgt : Nat) (hd : decode F.2.1 pc = .ok (.lookupswitch dflt ps, len)) (hp : (ps.toList.zip (ps.toList.drop 1)).all (fun (a, next) => a.1 < next.1) = true) (ho : Op.lookupswitch.offset ps.toList dflt x.toInt = off) (ht : (pc : Int) + off = (tgt : Int)) (k : xT G F Q tgt lv (st) I J) : xT G F Q pc lv (.int x :: st) I J := fun p l e s m args below meth c A C H locs ls hl hP hS => lv_lookup C.1 C.2.1 hd hp ho ht (k p l e s m args below meth c A C H locs ls hl hP hS)
end XR
end
section
set_option maxRecDepth 100000 in
theorem xcin_0 : ∀ w ∈ u_ws RX0 TX0 5, w ∈ xw := by decide +kernel
set_option maxRecDepth 100000 in
theorem xcin_1 : ∀ w ∈ u_ws RX1 TX1 4, w ∈ xw := by decide +kernel
set_option maxRecDepth 100000 in
theorem xcin_2 : ∀ w ∈ u_ws RX2 TX2 8, w ∈ xw := by decide +kernel
set_option maxRecDepth 100000 in
theorem xcin_3 : ∀ w ∈ u_ws RX3 TX3 10, w ∈ xw := by decide +kernel
set_option maxRecDepth 100000 in
theorem xcin_4 : ∀ w ∈ u_ws RX4 TX4 13, w ∈ xw := by decide +kernel
set_option maxRecDepth 100000 in
theorem xcin_5 : ∀ w ∈ u_ws RX5 TX5 4, w ∈ xw := by decide +kernel
set_option maxRecDepth 100000 in
theorem xcin_6 : ∀ w ∈ u_ws RX6 TX6 10, w ∈ xw := by decide +kernel
set_option maxRecDepth 100000 in
theorem xcin_7 : ∀ w ∈ u_ws RX7 TX7 2, w ∈ xw := by decide +kernel
set_option maxRecDepth 100000 in
theorem xcin_8 : ∀ w ∈ u_ws RX8 TX8 9, w ∈ xw := by decide +kernel
set_option maxRecDepth 100000 in
theorem xcin_9 : ∀ w ∈ u_ws RX9 TX9 42, w ∈ xw := by decide +kernel
def xK (q : vw_C) : Prop := (∀ w ∈ u_ws q.1 q.2.1 q.2.2, w ∈ xw) ∧ ∃ ty0 : Nat → FieldType, (∀ k, k < q.2.2 → parseFieldDescriptor (q.2.1 k).2.2.1 = some (ty0 k)) ∧ ∀ a, a < q.2.2 → ∀ b, b < q.2.2 → a ≠ b → (q.2.1 a).2.1 ≠ (q.2.1 b).2.1
theorem xcls : ∀ (ci : Nat) (q : vw_C), xcl[ci]? = some q → xK q
  | 0, q, h => by cases h; exact ⟨xcin_0, tyX0, tyX0_ok, nmX0⟩
  | 1, q, h => by cases h; exact ⟨xcin_1, tyX1, tyX1_ok, nmX1⟩
  | 2, q, h => by cases h; exact ⟨xcin_2, tyX2, tyX2_ok, nmX2⟩
  | 3, q, h => by cases h; exact ⟨xcin_3, tyX3, tyX3_ok, nmX3⟩
  | 4, q, h => by cases h; exact ⟨xcin_4, tyX4, tyX4_ok, nmX4⟩
  | 5, q, h => by cases h; exact ⟨xcin_5, tyX5, tyX5_ok, nmX5⟩
  | 6, q, h => by cases h; exact ⟨xcin_6, tyX6, tyX6_ok, nmX6⟩
  | 7, q, h => by cases h; exact ⟨xcin_7, tyX7, tyX7_ok, nmX7⟩
  | 8, q, h => by cases h; exact ⟨xcin_8, tyX8, tyX8_ok, nmX8⟩
  | 9, q, h => by cases h; exact ⟨xcin_9, tyX9, tyX9_ok, nmX9⟩
  | n + 10, q, h => by simp [xcl] at h
def xlk (own : String) (ix ci j : Nat) : Prop := ∃ q : vw_C, xcl[ci]? = some q ∧ j < q.2.2 ∧ Cond.fieldLink own ix (q.2.1 j).1 (q.2.1 j).2.1 (q.2.1 j).2.2.1 ∈ xw
def xlp (own : String) (ix ci j : Nat) (ty : FieldType) : Prop := ∃ q : vw_C, xcl[ci]? = some q ∧ j < q.2.2 ∧ Cond.fieldLink own ix (q.2.1 j).1 (q.2.1 j).2.1 (q.2.1 j).2.2.1 ∈ xw ∧ (q.2.1 j).2.2.2 = false ∧ parseFieldDescriptor (q.2.1 j).2.2.1 = some ty
theorem xws_o {G : xG} {I : xI} {J : xJ} {k ci j : Nat} {fs : List xs_F} {sp : xs_F} (hl : lay k = .inl (ci, fs)) (hj : fs[j]? = some sp) : (xws G I J)[k]? = some (G.1 k, .inr (ci, xs_fs G.1 (I k) (J k) 0 fs)) := by
  rw [xws_at (lay_lt_o hl hj)]
  simp only [xs_e, xs_c, hl]
theorem xws_a {G : xG} {I : xI} {J : xJ} {k : Nat} {a : Nat × Nat × (Nat → Nat)} (hl : lay k = .inr a) : (xws G I J)[k]? = some (G.1 k, xs_a G (I k) (J k) a) := by
  rw [xws_at (lay_lt_a hl)]
  simp only [xs_e, xs_c, hl]
section XM
variable {G : xG} {F : xM} {Q : xQT} {pc : Nat} {lv : xL} {st : List Value} {I : xI} {J : xJ}
theorem xr_getI {k ci ix j : Nat} {fs : List xs_F} (hd : decode F.2.1 pc = .ok (.getfield ix, 3)) (hw : xlk F.1.cls ix ci j) (hl : lay k = .inl (ci, fs)) (hj : fs[j]? = some (.inr false)) (kk : xT G F Q (pc + 3) lv (.int (I k j) :: st) I J) : xT G F Q pc lv (.ref (G.1 k) :: st) I J := by
  intro p l e s m args below meth c A C H locs ls hl2 hP hS
  obtain ⟨q, hc, hjn, hlink⟩ := hw
  refine va_get (D := G.2.1) (ci := ci) (v := .int (I k j)) (C := q.1) (T := q.2.1) (N := q.2.2) C.1 C.2.1 C.2.2.2.2.1 (xcls ci q hc).1 C.2.2.2.1 C.2.2.2.2.2.1 hP k (xws_o hl hj) hc j hjn (C.2.2.2.2.1 _ hlink) (fun _ h => h) ?_ hd (kk p l e s m args below meth c A C H locs ls hl2 hP hS)
  rw [xs_fs_at, hj]
  simp [xs_v]
theorem xr_getJ {k ci ix j : Nat} {fs : List xs_F} (hd : decode F.2.1 pc = .ok (.getfield ix, 3)) (hw : xlk F.1.cls ix ci j) (hl : lay k = .inl (ci, fs)) (hj : fs[j]? = some (.inr true)) (kk : xT G F Q (pc + 3) lv (.long (J k j) :: st) I J) : xT G F Q pc lv (.ref (G.1 k) :: st) I J := by
  intro p l e s m args below meth c A C H locs ls hl2 hP hS
  obtain ⟨q, hc, hjn, hlink⟩ := hw
  refine va_get (D := G.2.1) (ci := ci) (v := .long (J k j)) (C := q.1) (T := q.2.1) (N := q.2.2) C.1 C.2.1 C.2.2.2.2.1 (xcls ci q hc).1 C.2.2.2.1 C.2.2.2.2.2.1 hP k (xws_o hl hj) hc j hjn (C.2.2.2.2.1 _ hlink) (fun _ h => h) ?_ hd (kk p l e s m args below meth c A C H locs ls hl2 hP hS)
  rw [xs_fs_at, hj]
  simp [xs_v]
theorem xr_getR {k ci ix j r : Nat} {fs : List xs_F} (hd : decode F.2.1 pc = .ok (.getfield ix, 3)) (hw : xlk F.1.cls ix ci j) (hl : lay k = .inl (ci, fs)) (hj : fs[j]? = some (.inl r)) (kk : xT G F Q (pc + 3) lv (.ref (G.1 r) :: st) I J) : xT G F Q pc lv (.ref (G.1 k) :: st) I J := by
  intro p l e s m args below meth c A C H locs ls hl2 hP hS
  obtain ⟨q, hc, hjn, hlink⟩ := hw
  refine va_get (D := G.2.1) (ci := ci) (v := .ref (G.1 r)) (C := q.1) (T := q.2.1) (N := q.2.2) C.1 C.2.1 C.2.2.2.2.1 (xcls ci q hc).1 C.2.2.2.1 C.2.2.2.2.2.1 hP k (xws_o hl hj) hc j hjn (C.2.2.2.2.1 _ hlink) (fun _ h => h) ?_ hd (kk p l e s m args below meth c A C H locs ls hl2 hP hS)
  rw [xs_fs_at, hj]
  simp [xs_v]
theorem xr_putI {k ci ix j : Nat} {fs : List xs_F} {x : Int32} (hd : decode F.2.1 pc = .ok (.putfield ix, 3)) (hw : xlp F.1.cls ix ci j .int) (hl : lay k = .inl (ci, fs)) (hj : fs[j]? = some (.inr false)) (kk : xT G F Q (pc + 3) lv st (va_up I k (upd (I k) j x)) J) : xT G F Q pc lv (.int x :: .ref (G.1 k) :: st) I J := by
  intro p l e s m args below meth c A C H locs ls hl2 hP hS
  obtain ⟨q, hc, hjn, hlink, hfin, hpd⟩ := hw
  obtain ⟨hin, ty0, hty, hnm⟩ := xcls ci q hc
  have hD : va_D A (xws G I J) := xD C.2.2.2.2.2.2.1 C.2.2.2.2.2.2.2.1
  have hjl : j < (xs_fs G.1 (I k) (J k) 0 fs).length := by
    rw [xs_fs_len]; exact (List.getElem?_eq_some_iff.mp hj).1
  refine va_put (D := G.2.1) (ci := ci) (v := .int x) (ty := .int) (C := q.1) (T := q.2.1) (N := q.2.2) C.1 C.2.1 C.2.2.2.2.1 hin ty0 hty hnm C.2.2.2.1 C.2.2.2.2.2.1 hP hD hS k (xws_o hl hj) hc j hjn (C.2.2.2.2.1 _ hlink) (fun _ h => h) hfin hpd rfl rfl hjl hd (fun H1 locs1 hP1 hD1 hS1 => kk p l e s m args below meth c A C H1 locs1 ls hl2 ?_ hS1)
  rw [xs_fs_setI G.1 (I k) (J k) hj x, xws_setI (i := upd (I k) j x) (lay_lt_o hl hj) (by simp only [xs_c, hl])] at hP1
  exact hP1
theorem xr_putZ {k ci ix j : Nat} {fs : List xs_F} {x : Int32} (hd : decode F.2.1 pc = .ok (.putfield ix, 3)) (hw : xlp F.1.cls ix ci j .boolean) (hl : lay k = .inl (ci, fs)) (hj : fs[j]? = some (.inr false)) (hx : x = 0 ∨ x = 1) (kk : xT G F Q (pc + 3) lv st (va_up I k (upd (I k) j x)) J) : xT G F Q pc lv (.int x :: .ref (G.1 k) :: st) I J := by
  intro p l e s m args below meth c A C H locs ls hl2 hP hS
  obtain ⟨q, hc, hjn, hlink, hfin, hpd⟩ := hw
  obtain ⟨hin, ty0, hty, hnm⟩ := xcls ci q hc
  have hD : va_D A (xws G I J) := xD C.2.2.2.2.2.2.1 C.2.2.2.2.2.2.2.1
  have hjl : j < (xs_fs G.1 (I k) (J k) 0 fs).length := by
    rw [xs_fs_len]; exact (List.getElem?_eq_some_iff.mp hj).1
  refine va_put (D := G.2.1) (ci := ci) (v := .int x) (ty := .boolean) (C := q.1) (T := q.2.1) (N := q.2.2) C.1 C.2.1 C.2.2.2.2.1 hin ty0 hty hnm C.2.2.2.1 C.2.2.2.2.2.1 hP hD hS k (xws_o hl hj) hc j hjn (C.2.2.2.2.1 _ hlink) (fun _ h => h) hfin hpd (by rcases hx with h | h <;> subst h <;> decide) (by rcases hx with h | h <;> subst h <;> decide) hjl hd (fun H1 locs1 hP1 hD1 hS1 => kk p l e s m args below meth c A C H1 locs1 ls hl2 ?_ hS1)
  rw [xs_fs_setI G.1 (I k) (J k) hj x, xws_setI (i := upd (I k) j x) (lay_lt_o hl hj) (by simp only [xs_c, hl])] at hP1
  exact hP1
theorem xr_putJ {k ci ix j : Nat} {fs : List xs_F} {x : Int64} (hd : decode F.2.1 pc = .ok (.putfield ix, 3)) (hw : xlp F.1.cls ix ci j .long) (hl : lay k = .inl (ci, fs)) (hj : fs[j]? = some (.inr true)) (kk : xT G F Q (pc + 3) lv st I (va_up J k (vp_updL (J k) j x))) : xT G F Q pc lv (.long x :: .ref (G.1 k) :: st) I J := by
  intro p l e s m args below meth c A C H locs ls hl2 hP hS
  obtain ⟨q, hc, hjn, hlink, hfin, hpd⟩ := hw
  obtain ⟨hin, ty0, hty, hnm⟩ := xcls ci q hc
  have hD : va_D A (xws G I J) := xD C.2.2.2.2.2.2.1 C.2.2.2.2.2.2.2.1
  have hjl : j < (xs_fs G.1 (I k) (J k) 0 fs).length := by
    rw [xs_fs_len]; exact (List.getElem?_eq_some_iff.mp hj).1
  refine va_put (D := G.2.1) (ci := ci) (v := .long x) (ty := .long) (C := q.1) (T := q.2.1) (N := q.2.2) C.1 C.2.1 C.2.2.2.2.1 hin ty0 hty hnm C.2.2.2.1 C.2.2.2.2.2.1 hP hD hS k (xws_o hl hj) hc j hjn (C.2.2.2.2.1 _ hlink) (fun _ h => h) hfin hpd rfl rfl hjl hd (fun H1 locs1 hP1 hD1 hS1 => kk p l e s m args below meth c A C H1 locs1 ls hl2 ?_ hS1)
  rw [xs_fs_setJ G.1 (I k) (J k) hj x, xws_setJ (j := vp_updL (J k) j x) (lay_lt_o hl hj) (by simp only [xs_c, hl])] at hP1
  exact hP1
theorem xr_iald {k n : Nat} {rf : Nat → Nat} {i : Int32} (j : Nat) (hd : decode F.2.1 pc = .ok (.iaload, 1)) (hl : lay k = .inr (0, n, rf)) (hi : i = nI j) (hj : j < n) (hn : n < 2 ^ 31) (kk : xT G F Q (pc + 1) lv (.int (I k j) :: st) I J) : xT G F Q pc lv (.int i :: .ref (G.1 k) :: st) I J := by
  intro p l e s m args below meth c A C H locs ls hl2 hP hS
  subst hi
  refine va_iald (D := G.2.1) C.1 C.2.1 C.2.2.2.2.2.1 hP k 0 (xws_a hl) rfl (vp_in_nI hj hn) hd ?_
  rw [nI_clamp (by omega)]
  exact kk p l e s m args below meth c A C H locs ls hl2 hP hS
theorem xr_zald {k n : Nat} {rf : Nat → Nat} {i : Int32} (j : Nat) (hd : decode F.2.1 pc = .ok (.baload, 1)) (hl : lay k = .inr (2, n, rf)) (hi : i = nI j) (hj : j < n) (hn : n < 2 ^ 31) (kk : xT G F Q (pc + 1) lv (.int (I k j) :: st) I J) : xT G F Q pc lv (.int i :: .ref (G.1 k) :: st) I J := by
  intro p l e s m args below meth c A C H locs ls hl2 hP hS
  subst hi
  refine va_zald (D := G.2.1) C.1 C.2.1 C.2.2.2.2.2.1 hP k 2 (xws_a hl) rfl (vp_in_nI hj hn) hd ?_
  rw [nI_clamp (by omega)]
  exact kk p l e s m args below meth c A C H locs ls hl2 hP hS
theorem xr_lald {k n : Nat} {rf : Nat → Nat} {i : Int32} (j : Nat) (hd : decode F.2.1 pc = .ok (.laload, 1)) (hl : lay k = .inr (1, n, rf)) (hi : i = nI j) (hj : j < n) (hn : n < 2 ^ 31) (kk : xT G F Q (pc + 1) lv (.long (J k j) :: st) I J) : xT G F Q pc lv (.int i :: .ref (G.1 k) :: st) I J := by
  intro p l e s m args below meth c A C H locs ls hl2 hP hS
  subst hi
  refine va_lald (D := G.2.1) C.1 C.2.1 C.2.2.2.2.2.1 hP k 1 (xws_a hl) rfl (vp_in_nI hj hn) hd ?_
  rw [nI_clamp (by omega)]
  exact kk p l e s m args below meth c A C H locs ls hl2 hP hS
theorem xr_aald3 {k n : Nat} {rf : Nat → Nat} {i : Int32} (j : Nat) (hd : decode F.2.1 pc = .ok (.aaload, 1)) (hl : lay k = .inr (3, n, rf)) (hi : i = nI j) (hj : j < n) (hn : n < 2 ^ 31) (kk : xT G F Q (pc + 1) lv (.ref (G.1 (rf j)) :: st) I J) : xT G F Q pc lv (.int i :: .ref (G.1 k) :: st) I J := by
  intro p l e s m args below meth c A C H locs ls hl2 hP hS
  subst hi
  refine va_aldq (D := G.2.1) C.1 C.2.1 C.2.2.2.2.2.1 hP k 3 (xws_a hl) rfl (vp_in_nI hj hn) hd ?_
  rw [nI_clamp (by omega)]
  exact kk p l e s m args below meth c A C H locs ls hl2 hP hS
theorem xr_aald4 {k n : Nat} {rf : Nat → Nat} {i : Int32} (j : Nat) (hd : decode F.2.1 pc = .ok (.aaload, 1)) (hl : lay k = .inr (4, n, rf)) (hi : i = nI j) (hj : j < n) (hn : n < 2 ^ 31) (kk : xT G F Q (pc + 1) lv (.ref (G.1 (rf j)) :: st) I J) : xT G F Q pc lv (.int i :: .ref (G.1 k) :: st) I J := by
  intro p l e s m args below meth c A C H locs ls hl2 hP hS
  subst hi
  refine va_aldq (D := G.2.1) C.1 C.2.1 C.2.2.2.2.2.1 hP k 4 (xws_a hl) rfl (vp_in_nI hj hn) hd ?_
  rw [nI_clamp (by omega)]
  exact kk p l e s m args below meth c A C H locs ls hl2 hP hS
theorem xr_alen0 {k n : Nat} {rf : Nat → Nat} (hd : decode F.2.1 pc = .ok (.arraylength, 1)) (hl : lay k = .inr (0, n, rf)) (kk : xT G F Q (pc + 1) lv (.int (nI n) :: st) I J) : xT G F Q pc lv (.ref (G.1 k) :: st) I J := by
  intro p l e s m args below meth c A C H locs ls hl2 hP hS
  exact va_alen (D := G.2.1) (x := (n, .inl (I k))) C.1 C.2.1 C.2.2.2.2.2.1 hP k 0 (xws_a hl) rfl rfl hd (kk p l e s m args below meth c A C H locs ls hl2 hP hS)
theorem xr_alen1 {k n : Nat} {rf : Nat → Nat} (hd : decode F.2.1 pc = .ok (.arraylength, 1)) (hl : lay k = .inr (1, n, rf)) (kk : xT G F Q (pc + 1) lv (.int (nI n) :: st) I J) : xT G F Q pc lv (.ref (G.1 k) :: st) I J := by
  intro p l e s m args below meth c A C H locs ls hl2 hP hS
  exact va_alen (D := G.2.1) (x := (n, .inr (.inl (J k)))) C.1 C.2.1 C.2.2.2.2.2.1 hP k 1 (xws_a hl) rfl rfl hd (kk p l e s m args below meth c A C H locs ls hl2 hP hS)
theorem xr_iast {k n : Nat} {rf : Nat → Nat} {i x : Int32} (j : Nat) (hd : decode F.2.1 pc = .ok (.iastore, 1)) (hl : lay k = .inr (0, n, rf)) (hi : i = nI j) (hj : j < n) (hn : n < 2 ^ 31) (kk : xT G F Q (pc + 1) lv st (va_up I k (upd (I k) j x)) J) : xT G F Q pc lv (.int x :: .int i :: .ref (G.1 k) :: st) I J := by
  intro p l e s m args below meth c A C H locs ls hl2 hP hS
  subst hi
  have hD : va_D A (xws G I J) := xD C.2.2.2.2.2.2.1 C.2.2.2.2.2.2.2.1
  refine va_iast (D := G.2.1) C.1 C.2.1 C.2.2.2.2.2.1 hP hD hS k 0 (xws_a hl) rfl (vp_in_nI hj hn) hd (fun H1 locs1 hP1 hD1 hS1 => kk p l e s m args below meth c A C H1 locs1 ls hl2 ?_ hS1)
  rw [nI_clamp (by omega), xws_setI (i := upd (I k) j x) (lay_lt_a hl) (by simp only [xs_c, hl]; rfl)] at hP1
  exact hP1
theorem xr_zast {k n : Nat} {rf : Nat → Nat} {i x : Int32} (j : Nat) (hd : decode F.2.1 pc = .ok (.bastore, 1)) (hl : lay k = .inr (2, n, rf)) (hi : i = nI j) (hj : j < n) (hn : n < 2 ^ 31) (hx : x = 0 ∨ x = 1) (kk : xT G F Q (pc + 1) lv st (va_up I k (upd (I k) j x)) J) : xT G F Q pc lv (.int x :: .int i :: .ref (G.1 k) :: st) I J := by
  intro p l e s m args below meth c A C H locs ls hl2 hP hS
  subst hi
  have hD : va_D A (xws G I J) := xD C.2.2.2.2.2.2.1 C.2.2.2.2.2.2.2.1
  refine va_zast (D := G.2.1) C.1 C.2.1 C.2.2.2.2.2.1 hP hD hS k 2 (xws_a hl) rfl (vp_in_nI hj hn) hd (fun H1 locs1 hP1 hD1 hS1 => kk p l e s m args below meth c A C H1 locs1 ls hl2 ?_ hS1)
  rw [nI_clamp (by omega), show vp_nar .boolean x = x by rcases hx with h | h <;> subst h <;> decide, xws_setI (i := upd (I k) j x) (lay_lt_a hl) (by simp only [xs_c, hl]; rfl)] at hP1
  exact hP1
theorem xr_last {k n : Nat} {rf : Nat → Nat} {i : Int32} {x : Int64} (j : Nat) (hd : decode F.2.1 pc = .ok (.lastore, 1)) (hl : lay k = .inr (1, n, rf)) (hi : i = nI j) (hj : j < n) (hn : n < 2 ^ 31) (kk : xT G F Q (pc + 1) lv st I (va_up J k (vp_updL (J k) j x))) : xT G F Q pc lv (.long x :: .int i :: .ref (G.1 k) :: st) I J := by
  intro p l e s m args below meth c A C H locs ls hl2 hP hS
  subst hi
  have hD : va_D A (xws G I J) := xD C.2.2.2.2.2.2.1 C.2.2.2.2.2.2.2.1
  refine va_last (D := G.2.1) C.1 C.2.1 C.2.2.2.2.2.1 hP hD hS k 1 (xws_a hl) rfl (vp_in_nI hj hn) hd (fun H1 locs1 hP1 hD1 hS1 => kk p l e s m args below meth c A C H1 locs1 ls hl2 ?_ hS1)
  rw [nI_clamp (by omega), xws_setJ (j := vp_updL (J k) j x) (lay_lt_a hl) (by simp only [xs_c, hl]; rfl)] at hP1
  exact hP1
-- returns
def xpi (post : Int32 → xI → xJ → Prop) : Option Value → xI → xJ → Prop := fun r I J => ∃ v : Int32, r = some (.int v) ∧ post v I J
def xpl (post : Int64 → xI → xJ → Prop) : Option Value → xI → xJ → Prop := fun r I J => ∃ v : Int64, r = some (.long v) ∧ post v I J
def xpv (post : xI → xJ → Prop) : Option Value → xI → xJ → Prop := fun r I J => r = none ∧ post I J
theorem xr_iret {post : Int32 → xI → xJ → Prop} {v : Int32} (hd : decode F.2.1 pc = .ok (.ireturn, 1)) (hr : F.2.2.2.1 = some .int) (hz : F.2.2.2.2.2 = (0, 0)) (hp : post v I J) : xT G F (xMQ G (xpi post)) pc lv [.int v] I J := by
  intro p l e s m args below meth c A C H locs ls hl2 hP hS
  rw [show F.2.2.2.2.2.1 = 0 by rw [hz], show F.2.2.2.2.2.2 = 0 by rw [hz]]
  exact W.iret (v := v) C.1 C.2.1 (C.2.2.2.2.2.2.2.2.2.1.trans hr) (fun t ht hW => ⟨⟨some (.int v), I, J, rfl, ⟨v, rfl, hp⟩, by rw [ht]; exact hP⟩, hS.F ht⟩) hS.2.2 hd C.2.2.2.2.2.2.2.2.1
theorem xr_zret {post : Int32 → xI → xJ → Prop} {v : Int32} (hd : decode F.2.1 pc = .ok (.ireturn, 1)) (hr : F.2.2.2.1 = some .boolean) (hz : F.2.2.2.2.2 = (0, 0)) (hv : v = 0 ∨ v = 1) (hp : post v I J) : xT G F (xMQ G (xpi post)) pc lv [.int v] I J := by
  intro p l e s m args below meth c A C H locs ls hl2 hP hS
  rw [show F.2.2.2.2.2.1 = 0 by rw [hz], show F.2.2.2.2.2.2 = 0 by rw [hz]]
  exact W.zret (v := v) (ty := .boolean) C.1 C.2.1 (C.2.2.2.2.2.2.2.2.2.1.trans hr) (by rcases hv with h | h <;> subst h <;> decide) (fun t ht hW => ⟨⟨some (.int v), I, J, rfl, ⟨v, rfl, hp⟩, by rw [ht]; exact hP⟩, hS.F ht⟩) hS.2.2 hd C.2.2.2.2.2.2.2.2.1
theorem xr_lret {post : Int64 → xI → xJ → Prop} {v : Int64} (hd : decode F.2.1 pc = .ok (.lreturn, 1)) (hr : F.2.2.2.1 = some .long) (hz : F.2.2.2.2.2 = (0, 0)) (hp : post v I J) : xT G F (xMQ G (xpl post)) pc lv [.long v] I J := by
  intro p l e s m args below meth c A C H locs ls hl2 hP hS
  rw [show F.2.2.2.2.2.1 = 0 by rw [hz], show F.2.2.2.2.2.2 = 0 by rw [hz]]
  exact W.lret (v := v) C.1 C.2.1 (C.2.2.2.2.2.2.2.2.2.1.trans hr) (fun t ht hW => ⟨⟨some (.long v), I, J, rfl, ⟨v, rfl, hp⟩, by rw [ht]; exact hP⟩, hS.F ht⟩) hS.2.2 hd C.2.2.2.2.2.2.2.2.1
theorem xr_vret {post : xI → xJ → Prop} (hd : decode F.2.1 pc = .ok (.return_, 1)) (hr : F.2.2.2.1 = none) (hz : F.2.2.2.2.2 = (0, 0)) (hp : post I J) : xT G F (xMQ G (xpv post)) pc lv [] I J := by
  intro p l e s m args below meth c A C H locs ls hl2 hP hS
  rw [show F.2.2.2.2.2.1 = 0 by rw [hz], show F.2.2.2.2.2.2 = 0 by rw [hz]]
  exact W.vret C.1 C.2.1 (C.2.2.2.2.2.2.2.2.2.1.trans hr) (fun t ht hW => ⟨⟨none, I, J, rfl, ⟨rfl, hp⟩, by rw [ht]; exact hP⟩, hS.F ht⟩) hS.2.2 hd C.2.2.2.2.2.2.2.2.1
theorem xCon.mono {av : List Value} {post post' : Option Value → xI → xJ → Prop} (h : xCon G F av I J post) (hp : ∀ r I' J', post r I' J' → post' r I' J') : xCon G F av I J post' := by
  intro l p e ha hc hk s m args below hf happ hP hT
  obtain ⟨k, o, a1, a2, a3, ⟨⟨⟨r, I', J', b1, b2, b3⟩, b4⟩, b5⟩⟩ := h l p e ha hc hk s m args below hf happ hP hT
  exact ⟨k, o, a1, a2, a3, ⟨⟨⟨r, I', J', b1, hp _ _ _ b2, b3⟩, b4⟩, b5⟩⟩
-- calls
theorem xPc_blind {av : List Value} : FrameBlind (xPc G av I J) := fun a U g mk q => by
  obtain ⟨q0, qP, qK, qN, qI⟩ := q
  exact ⟨q0, qP, va_K.moved (u := U) (U := U.calling g mk a) (Vm.Alike.refl U.vm) qK, va_Nw.same rfl rfl qN, qI⟩
theorem xPc_in {p : Program} {s : State} {m : MethodId} {args : Array Value} {meth : Method} {c : Code} {A : Nat → Prop} {H : Heap} {av : List Value} (C : xC G F p s m args meth c A) (hP : va_P G.2.1 xcl (xws G I J) H) : ∀ U : State, U.heap = H → s.WarmedH U.vm → xPc G av I J av.toArray U := fun U hU hW => ⟨rfl, by rw [hU]; exact hP, va_K.moved hW.alike C.2.2.2.2.2.1, va_Nw.warmM hW C.2.2.2.2.2.2.2.2.2.2, C.2.2.2.2.2.2.1⟩
theorem x_after {p : Program} {l : Launch} {e : Env} {R : Room} {s : State} {m : MethodId} {args : Array Value} {below : List Frame} {meth : Method} {c : Code} {H : Heap} {locs : List Loc} {cells slots : Nat} {QQ : State → Prop} {ls : Array Slot} {rest st0 : List Value} {a : Array Value} {A : Nat → Prop} {post : Option Value → xI → xJ → Prop}
    (hr : va_Run p l e R s m args below meth c H locs cells slots 0 0 (F0 m pc ls st0) rest (xQc G post (xA G) a) (xA G)) (hS : va_S A s.heap H locs) (hA : ∀ q, xA G q → A q)
    (kk : ∀ (r : Option Value) (I' : xI) (J' : xJ) (H1 : Heap) (locs1 : List Loc), post r I' J' → va_P G.2.1 xcl (xws G I' J') H1 → va_S A s.heap H1 locs1 → W p l e R s m args below meth c H1 locs1 cells slots QQ (F0 m (pc + 3) ls (r.toList ++ rest))) : W p l e R s m args below meth c H locs cells slots QQ (F0 m pc ls st0) := by
  intro T hT X
  obtain ⟨v, st₀, t, T', L, h0, X', hL, e1, e2, ⟨⟨r, I', J', hv, hp, hb⟩, hz, hk⟩, st⟩ := hr T hT X
  cases hv
  rw [h0] at hz hk
  obtain ⟨t2, a1, b1⟩ := kk v I' J' T'.heap (locs ++ L) hp (by rw [e1]; exact hb)
    ⟨Nat.le_trans hS.1 (by rw [e1]; exact hz), fun q h1 h2 => by rw [e1, hk q (Nat.lt_of_lt_of_le h1 hS.1) (fun z => h2 (hA q z))]; exact hS.2.1 q h1 h2, fun q hq => by
      rcases List.mem_append.mp hq with h | h
      · exact hS.2.2 q h
      · exact hA _ (hL q h)⟩ T' rfl X'
  exact ⟨t2, st t2 a1, b1⟩
def xcb (F F' : xM) (n : Nat) : Prop := Cond.code F'.1 F'.2.1 F'.2.2.1 F'.2.2.2.1 ∈ xw ∧ Cond.initialized F'.1.cls ∈ xw ∧ (F'.1.cls ≠ "java/lang/invoke/MethodHandle" ∧ F'.1.cls ≠ "java/lang/invoke/VarHandle" ∧ (parseMethodDescriptor F'.1.desc).map (fun d => d.parameters.length) = some n) ∧ (F'.2.2.2.2.1.frames + 1 ≤ F.2.2.2.2.1.frames ∧ 8 + (F'.2.2.1 + 11) + F'.2.2.2.2.1.locals ≤ F.2.2.2.2.1.locals) ∧ F'.2.2.2.2.1.cells = 0 ∧ F'.2.2.2.2.1.slots = 0 ∧ F.2.2.2.2.2.1 ≤ F.2.2.2.2.1.cells ∧ F.2.2.2.2.2.2 ≤ F.2.2.2.2.1.slots
def xcv (F F' : xM) (ix n : Nat) : Prop := xcb F F' n ∧ Cond.methodLink F.1.cls ix F'.1 ∈ xw ∧ Cond.instanceMethod F'.1 ∈ xw ∧ Cond.selects F'.1.cls F'.1 F'.1 ∈ xw
def xcs (F F' : xM) (ix n : Nat) : Prop := xcb F F' n ∧ Cond.methodLink F.1.cls ix F'.1 ∈ xw ∧ Cond.static F'.1 ∈ xw
theorem xcb.B {p : Program} {s : State} {m : MethodId} {args : Array Value} {meth : Method} {c : Code} {A : Nat → Prop} {F' : xM} {ix n : Nat} (h : xcb F F' n) (hl : Cond.methodLink F.1.cls ix F'.1 ∈ xw) (C : xC G F p s m args meth c A) : CallB F.2.2.2.2.1 s args F.1.cls ix F'.1 F'.2.1 F'.2.2.1 F'.2.2.2.1 (xown F') F'.2.2.2.2.1 0 0 n := by
  obtain ⟨h1, h2, h3, h4, h5, h6, h7, h8⟩ := h
  have hts := C.2.2.2.2.1
  exact callB_of (Ts := xw) (ws' := xw) n hts (fun w hw => by
    rcases List.mem_cons.mp hw with e | h
    · subst e
      exact ⟨h1, good_of_word (xw_good h1)⟩
    · exact ⟨h, good_of_word (xw_good h)⟩) rfl h5 h6 (hts _ h2) (hts _ hl) h3 h4
theorem xr_callV {F' : xM} {ix b n ci : Nat} {fs : List xs_F} {st0 : List Value} {post : Option Value → xI → xJ → Prop} (As : List Value) (hd : decode F.2.1 pc = .ok (.invokevirtual ix, 3)) (hw : xcv F F' ix n) (hn : As.length = n) (hl : lay b = .inl (ci, fs)) (hc0 : (xcl[ci]?).map (fun q => q.1) = some F'.1.cls) (hb : b < xN) (hst : st0 = As.reverse ++ .ref (G.1 b) :: st) (hrm : (st.map fun v => v.category).sum ≤ 8) (hc : xCon G F' (.ref (G.1 b) :: As) I J post) (kk : ∀ r I' J', post r I' J' → xT G F Q (pc + 3) lv (r.toList ++ st) I' J') : xT G F Q pc lv st0 I J := by
  intro p l e s m args below meth c A C H locs ls hl2 hP hS
  obtain ⟨hcb, hw1, hw2, hw3⟩ := hw
  have hts := C.2.2.2.2.1
  cases hq : xcl[ci]? with
  | none => rw [hq] at hc0; cases hc0
  | some q =>
    rw [hq] at hc0
    have hqc : q.1 = F'.1.cls := Option.some.inj hc0
    have he : (xws G I J)[b]? = some (G.1 b, .inr (ci, xs_fs G.1 (I b) (J b) 0 fs)) := by
      rw [xws_at hb]; simp only [xs_e, xs_c, hl]
    refine x_after (va_runV (C := F'.1.cls) (nL := F.2.2.1) (cc := F.2.1) (own := F.1.cls) (Ts := xw) (As := As) (rest := st) ⟨C.1, C.2.1, C.2.2.1, C.2.2.2.1, hts⟩ (hc l) ⟨hcb.B hw1 C, hts _ hw2, hts _ hw3⟩ ⟨xPc_blind, ?_, xPc_in C hP⟩ rfl hn hl2.1 hst (lv_room hrm) hd ⟨hcb.2.2.2.2.2.2.1, hcb.2.2.2.2.2.2.2⟩) hS (fun q hq => ?_) (fun r I' J' H1 locs1 hp hP1 hS1 => kk r I' J' hp p l e s m args below meth c A C H1 locs1 ls hl2 hP1 hS1)
    · have := va_recv C.2.2.2.2.2.1 hP hq he
      rw [hqc] at this
      exact this
    · obtain ⟨k, hk, rfl⟩ := hq
      exact C.2.2.2.2.2.2.2.1 k hk
theorem xr_callS {F' : xM} {ix n : Nat} {st0 : List Value} {post : Option Value → xI → xJ → Prop} (As : List Value) (hd : decode F.2.1 pc = .ok (.invokestatic ix, 3)) (hw : xcs F F' ix n) (hn : As.length = n) (hst : st0 = As.reverse ++ st) (hrm : (st.map fun v => v.category).sum ≤ 8) (hc : xCon G F' As I J post) (kk : ∀ r I' J', post r I' J' → xT G F Q (pc + 3) lv (r.toList ++ st) I' J') : xT G F Q pc lv st0 I J := by
  intro p l e s m args below meth c A C H locs ls hl2 hP hS
  obtain ⟨hcb, hw1, hw2⟩ := hw
  have hts := C.2.2.2.2.1
  refine x_after (va_runS (nL := F.2.2.1) (cc := F.2.1) (own := F.1.cls) (Ts := xw) (As := As) (rest := st) ⟨C.1, C.2.1, C.2.2.1, C.2.2.2.1, hts⟩ (hc l) ⟨hcb.B hw1 C, hts _ hw2⟩ ⟨xPc_blind, xPc_in C hP⟩ rfl hn hl2.1 hst (lv_room hrm) hd ⟨hcb.2.2.2.2.2.2.1, hcb.2.2.2.2.2.2.2⟩) hS (fun q hq => ?_) (fun r I' J' H1 locs1 hp hP1 hS1 => kk r I' J' hp p l e s m args below meth c A C H1 locs1 ls hl2 hP1 hS1)
  obtain ⟨k, hk, rfl⟩ := hq
  exact C.2.2.2.2.2.2.2.1 k hk
theorem xr_callG {F' : xM} {n : Nat} {st0 : List Value} {post : Option Value → xI → xJ → Prop} (As : List Value) (hd : decode F.2.1 pc = .ok (.invokestatic 60, 3)) (hF : F.1.cls = RX3) (hF' : F'.1 = yX8_isGoal) (hcb : xcb F F' n) (hw2 : Cond.static F'.1 ∈ xw) (hn : As.length = n) (hst : st0 = As.reverse ++ st) (hrm : (st.map fun v => v.category).sum ≤ 8) (hc : xCon G F' As I J post) (kk : ∀ r I' J', post r I' J' → xT G F Q (pc + 3) lv (r.toList ++ st) I' J') : xT G F Q pc lv st0 I J := by
  intro p l e s m args below meth c A C H locs ls hl2 hP hS
  have hts := C.2.2.2.2.1
  have hcw : va_CN F.2.2.2.2.1 s args F.1.cls 60 F'.1 RX8 F'.2.1 F'.2.2.1 F'.2.2.2.1 (xown F') F'.2.2.2.2.1 0 0 n := by
    obtain ⟨h1, h2, h3, h4, h5, h6, h7, h8⟩ := hcb
    exact va_cnB (Ts := xw) (ws' := xw) n hts (fun w hw => by
      rcases List.mem_cons.mp hw with e | h
      · subst e
        exact ⟨h1, good_of_word (xw_good h1)⟩
      · exact ⟨h, good_of_word (xw_good h)⟩) rfl h5 h6 (by rw [hF, hF']; exact C.2.2.2.2.2.2.2.2.2.2) (hts _ h2) h3 h4
  refine x_after (va_runSN (nL := F.2.2.1) (cc := F.2.1) (own := F.1.cls) (Ts := xw) (As := As) (rest := st) ⟨C.1, C.2.1, C.2.2.1, C.2.2.2.1, hts⟩ (hc l) ⟨hcw, hts _ hw2, trivial⟩ ⟨xPc_blind, xPc_in C hP⟩ rfl hn hl2.1 hst (lv_room hrm) hd ⟨hcb.2.2.2.2.2.2.1, hcb.2.2.2.2.2.2.2⟩) hS (fun q hq => ?_) (fun r I' J' H1 locs1 hp hP1 hS1 => kk r I' J' hp p l e s m args below meth c A C H1 locs1 ls hl2 hP1 hS1)
  obtain ⟨k, hk, rfl⟩ := hq
  exact C.2.2.2.2.2.2.2.1 k hk
end XM
end
section
def M_X0_clear : xM := (yX0_clear, cX0_clear, 1, none, { frames := 1, cells := 0, slots := 0, locals := 23 }, 0, 0)
def M_X0_find : xM := (yX0_find, cX0_find, 6, (some .int), { frames := 1, cells := 0, slots := 0, locals := 27 }, 0, 0)
def M_X0_add : xM := (yX0_add, cX0_add, 5, (some .int), { frames := 1, cells := 0, slots := 0, locals := 27 }, 0, 0)
def M_X0_slotOf : xM := (yX0_slotOf, cX0_slotOf, 8, (some .int), { frames := 0, cells := 0, slots := 0, locals := 0 }, 0, 0)
def M_X1_begin : xM := (yX1_begin, cX1_begin, 5, none, { frames := 2, cells := 0, slots := 0, locals := 51 }, 0, 0)
def M_X1_bringIn : xM := (yX1_bringIn, cX1_bringIn, 8, (some .boolean), { frames := 3, cells := 0, slots := 0, locals := 75 }, 0, 0)
def M_X1_addBlock : xM := (yX1_addBlock, cX1_addBlock, 5, (some .boolean), { frames := 2, cells := 0, slots := 0, locals := 51 }, 0, 0)
def M_X1_behind : xM := (yX1_behind, cX1_behind, 9, (some .long), { frames := 0, cells := 0, slots := 0, locals := 0 }, 0, 0)
def M_X2_forget : xM := (yX2_forget, cX2_forget, 1, none, { frames := 0, cells := 0, slots := 0, locals := 0 }, 0, 0)
def M_X2_forgetRows : xM := (yX2_forgetRows, cX2_forgetRows, 1, none, { frames := 1, cells := 0, slots := 0, locals := 23 }, 0, 0)
def M_X2_build : xM := (yX2_build, cX2_build, 6, none, { frames := 1, cells := 0, slots := 0, locals := 30 }, 0, 0)
def M_X2_buildBranch : xM := (yX2_buildBranch, cX2_buildBranch, 11, none, { frames := 0, cells := 0, slots := 0, locals := 0 }, 0, 0)
def M_X2_spread : xM := (yX2_spread, cX2_spread, 11, (some .int), { frames := 1, cells := 0, slots := 0, locals := 21 }, 0, 0)
def M_X2_countBackOrbits : xM := (yX2_countBackOrbits, cX2_countBackOrbits, 5, (some .int), { frames := 2, cells := 0, slots := 0, locals := 51 }, 0, 0)
def M_X2_markOfMove : xM := (yX2_markOfMove, cX2_markOfMove, 6, (some .int), { frames := 0, cells := 0, slots := 0, locals := 0 }, 0, 0)
def M_X2_roundsToRest : xM := (yX2_roundsToRest, cX2_roundsToRest, 8, (some .int), { frames := 2, cells := 0, slots := 0, locals := 53 }, 0, 0)
def M_X2_ringLength : xM := (yX2_ringLength, cX2_ringLength, 7, (some .int), { frames := 1, cells := 0, slots := 0, locals := 21 }, 0, 0)
def M_X2_commonDivisor : xM := (yX2_commonDivisor, cX2_commonDivisor, 11, (some .long), { frames := 1, cells := 0, slots := 0, locals := 23 }, 0, 0)
def M_X2_packed : xM := (yX2_packed, cX2_packed, 6, (some .long), { frames := 0, cells := 0, slots := 0, locals := 0 }, 0, 0)
def M_X3_restart : xM := (yX3_restart, cX3_restart, 2, none, { frames := 4, cells := 0, slots := 0, locals := 93 }, 0, 0)
def M_X3_isState : xM := (yX3_isState, cX3_isState, 2, (some .boolean), { frames := 0, cells := 0, slots := 0, locals := 0 }, 0, 0)
def M_X3_isLetter : xM := (yX3_isLetter, cX3_isLetter, 2, (some .boolean), { frames := 0, cells := 0, slots := 0, locals := 0 }, 0, 0)
def M_X3_isBack : xM := (yX3_isBack, cX3_isBack, 2, (some .boolean), { frames := 0, cells := 0, slots := 0, locals := 0 }, 0, 0)
def M_X3_canRead : xM := (yX3_canRead, cX3_canRead, 5, (some .boolean), { frames := 1, cells := 0, slots := 0, locals := 22 }, 0, 0)
def M_X3_read : xM := (yX3_read, cX3_read, 6, none, { frames := 4, cells := 0, slots := 0, locals := 93 }, 0, 0)
def M_X3_rewire : xM := (yX3_rewire, cX3_rewire, 5, none, { frames := 4, cells := 0, slots := 0, locals := 93 }, 0, 0)
def M_X3_refresh : xM := (yX3_refresh, cX3_refresh, 5, none, { frames := 3, cells := 0, slots := 0, locals := 69 }, 0, 0)
def M_X3_goals : xM := (yX3_goals, cX3_goals, 5, (some .int), { frames := 0, cells := 0, slots := 0, locals := 0 }, 0, 0)
def M_X3_writesUnlike : xM := (yX3_writesUnlike, cX3_writesUnlike, 4, (some .boolean), { frames := 0, cells := 0, slots := 0, locals := 0 }, 0, 0)
def M_X3_listMarks : xM := (yX3_listMarks, cX3_listMarks, 3, none, { frames := 2, cells := 0, slots := 0, locals := 47 }, 0, 0)
def M_X3_wireMarks : xM := (yX3_wireMarks, cX3_wireMarks, 7, none, { frames := 1, cells := 0, slots := 0, locals := 21 }, 0, 0)
def M_X3_rowLength : xM := (yX3_rowLength, cX3_rowLength, 3, (some .int), { frames := 1, cells := 0, slots := 0, locals := 23 }, 0, 0)
def M_X3_hasLetters : xM := (yX3_hasLetters, cX3_hasLetters, 4, (some .boolean), { frames := 0, cells := 0, slots := 0, locals := 0 }, 0, 0)
def M_X3_rowIndex : xM := (yX3_rowIndex, cX3_rowIndex, 5, (some .int), { frames := 0, cells := 0, slots := 0, locals := 0 }, 0, 0)
def M_X3_power : xM := (yX3_power, cX3_power, 5, (some .int), { frames := 0, cells := 0, slots := 0, locals := 0 }, 0, 0)
def M_X4_reset : xM := (yX4_reset, cX4_reset, 1, none, { frames := 2, cells := 0, slots := 0, locals := 43 }, 0, 0)
def M_X4_indexOf : xM := (yX4_indexOf, cX4_indexOf, 2, (some .int), { frames := 2, cells := 0, slots := 0, locals := 52 }, 0, 0)
def M_X4_load : xM := (yX4_load, cX4_load, 3, none, { frames := 0, cells := 0, slots := 0, locals := 0 }, 0, 0)
def M_X4_enter : xM := (yX4_enter, cX4_enter, 2, (some .int), { frames := 2, cells := 0, slots := 0, locals := 51 }, 0, 0)
def M_X4_take : xM := (yX4_take, cX4_take, 4, (some .int), { frames := 3, cells := 0, slots := 0, locals := 76 }, 0, 0)
def M_X4_followParts : xM := (yX4_followParts, cX4_followParts, 6, (some .boolean), { frames := 2, cells := 0, slots := 0, locals := 51 }, 0, 0)
def M_X4_classify : xM := (yX4_classify, cX4_classify, 3, none, { frames := 3, cells := 0, slots := 0, locals := 75 }, 0, 0)
def M_X4_refine : xM := (yX4_refine, cX4_refine, 5, none, { frames := 2, cells := 0, slots := 0, locals := 51 }, 0, 0)
def M_X4_keepRound : xM := (yX4_keepRound, cX4_keepRound, 1, none, { frames := 1, cells := 0, slots := 0, locals := 26 }, 0, 0)
def M_X4_areAlike : xM := (yX4_areAlike, cX4_areAlike, 3, (some .boolean), { frames := 0, cells := 0, slots := 0, locals := 0 }, 0, 0)
def M_X4_arePartedBy : xM := (yX4_arePartedBy, cX4_arePartedBy, 4, (some .boolean), { frames := 0, cells := 0, slots := 0, locals := 0 }, 0, 0)
def M_X4_partingRow : xM := (yX4_partingRow, cX4_partingRow, 9, (some .int), { frames := 2, cells := 0, slots := 0, locals := 47 }, 0, 0)
def M_X4_firstPartingLetter : xM := (yX4_firstPartingLetter, cX4_firstPartingLetter, 5, (some .int), { frames := 1, cells := 0, slots := 0, locals := 23 }, 0, 0)
def M_X4_firstUnlikeLetter : xM := (yX4_firstUnlikeLetter, cX4_firstUnlikeLetter, 3, (some .int), { frames := 0, cells := 0, slots := 0, locals := 0 }, 0, 0)
def M_X5_lay : xM := (yX5_lay, cX5_lay, 3, none, { frames := 1, cells := 0, slots := 0, locals := 23 }, 0, 0)
def M_X5_hasNumber : xM := (yX5_hasNumber, cX5_hasNumber, 2, (some .boolean), { frames := 0, cells := 0, slots := 0, locals := 0 }, 0, 0)
def M_X5_hasPair : xM := (yX5_hasPair, cX5_hasPair, 3, (some .boolean), { frames := 0, cells := 0, slots := 0, locals := 0 }, 0, 0)
def M_X5_write : xM := (yX5_write, cX5_write, 3, none, { frames := 0, cells := 0, slots := 0, locals := 0 }, 0, 0)
def M_X6_forget : xM := (yX6_forget, cX6_forget, 1, none, { frames := 0, cells := 0, slots := 0, locals := 0 }, 0, 0)
def M_X6_gatherWithin : xM := (yX6_gatherWithin, cX6_gatherWithin, 3, (some .int), { frames := 5, cells := 0, slots := 0, locals := 122 }, 0, 0)
def M_X6_enterWithin : xM := (yX6_enterWithin, cX6_enterWithin, 7, (some .boolean), { frames := 4, cells := 0, slots := 0, locals := 96 }, 0, 0)
def M_X6_beginWithEmpty : xM := (yX6_beginWithEmpty, cX6_beginWithEmpty, 1, none, { frames := 3, cells := 0, slots := 0, locals := 72 }, 0, 0)
def M_X6_extend : xM := (yX6_extend, cX6_extend, 5, (some .boolean), { frames := 3, cells := 0, slots := 0, locals := 72 }, 0, 0)
def M_X6_isLaw : xM := (yX6_isLaw, cX6_isLaw, 2, (some .boolean), { frames := 1, cells := 0, slots := 0, locals := 22 }, 0, 0)
def M_X6_countLaws : xM := (yX6_countLaws, cX6_countLaws, 3, (some .int), { frames := 2, cells := 0, slots := 0, locals := 43 }, 0, 0)
def M_X6_findLaw : xM := (yX6_findLaw, cX6_findLaw, 4, (some .int), { frames := 2, cells := 0, slots := 0, locals := 43 }, 0, 0)
def M_X6_gatherFallen : xM := (yX6_gatherFallen, cX6_gatherFallen, 4, (some .int), { frames := 5, cells := 0, slots := 0, locals := 127 }, 0, 0)
def M_X6_lookAtParts : xM := (yX6_lookAtParts, cX6_lookAtParts, 9, (some .boolean), { frames := 4, cells := 0, slots := 0, locals := 99 }, 0, 0)
def M_X6_addUnlike : xM := (yX6_addUnlike, cX6_addUnlike, 3, (some .boolean), { frames := 4, cells := 0, slots := 0, locals := 97 }, 0, 0)
def M_X7_empty : xM := (yX7_empty, cX7_empty, 1, none, { frames := 0, cells := 0, slots := 0, locals := 0 }, 0, 0)
def M_X7_copy : xM := (yX7_copy, cX7_copy, 2, none, { frames := 0, cells := 0, slots := 0, locals := 0 }, 0, 0)
def M_X7_mark : xM := (yX7_mark, cX7_mark, 2, (some .int), { frames := 0, cells := 0, slots := 0, locals := 0 }, 0, 0)
def M_X7_push : xM := (yX7_push, cX7_push, 2, (some .boolean), { frames := 0, cells := 0, slots := 0, locals := 0 }, 0, 0)
def M_X7_descend : xM := (yX7_descend, cX7_descend, 9, (some .int), { frames := 1, cells := 0, slots := 0, locals := 21 }, 0, 0)
def M_X8_sheet : xM := (yX8_sheet, cX8_sheet, 4, (some .int), { frames := 2, cells := 0, slots := 0, locals := 45 }, 0, 0)
def M_X8_cell : xM := (yX8_cell, cX8_cell, 4, (some .int), { frames := 1, cells := 0, slots := 0, locals := 22 }, 0, 0)
def M_X8_told : xM := (yX8_told, cX8_told, 3, (some .int), { frames := 1, cells := 0, slots := 0, locals := 21 }, 0, 0)
def M_X8_lose : xM := (yX8_lose, cX8_lose, 2, (some .int), { frames := 1, cells := 0, slots := 0, locals := 20 }, 0, 0)
def M_X8_letters : xM := (yX8_letters, cX8_letters, 3, (some .int), { frames := 5, cells := 0, slots := 0, locals := 114 }, 0, 0)
def M_X8_state : xM := (yX8_state, cX8_state, 3, (some .int), { frames := 5, cells := 0, slots := 0, locals := 118 }, 0, 0)
def M_X8_change : xM := (yX8_change, cX8_change, 6, (some .int), { frames := 5, cells := 0, slots := 0, locals := 117 }, 0, 0)
def M_X8_of : xM := (yX8_of, cX8_of, 5, (some .int), { frames := 1, cells := 0, slots := 0, locals := 21 }, 0, 0)
def M_X8_many : xM := (yX8_many, cX8_many, 2, (some .int), { frames := 0, cells := 0, slots := 0, locals := 0 }, 0, 0)
def M_X8_put : xM := (yX8_put, cX8_put, 8, (some .int), { frames := 3, cells := 0, slots := 0, locals := 70 }, 0, 0)
def M_X8_wipe : xM := (yX8_wipe, cX8_wipe, 3, (some .int), { frames := 1, cells := 0, slots := 0, locals := 20 }, 0, 0)
def M_X8_size : xM := (yX8_size, cX8_size, 2, (some .int), { frames := 1, cells := 0, slots := 0, locals := 20 }, 0, 0)
def M_X8_token : xM := (yX8_token, cX8_token, 3, (some .int), { frames := 1, cells := 0, slots := 0, locals := 21 }, 0, 0)
def M_X8_times : xM := (yX8_times, cX8_times, 4, (some .int), { frames := 3, cells := 0, slots := 0, locals := 70 }, 0, 0)
def M_X8_turn : xM := (yX8_turn, cX8_turn, 4, (some .int), { frames := 2, cells := 0, slots := 0, locals := 43 }, 0, 0)
def M_X8_act : xM := (yX8_act, cX8_act, 4, (some .int), { frames := 3, cells := 0, slots := 0, locals := 74 }, 0, 0)
def M_X8_part : xM := (yX8_part, cX8_part, 5, (some .int), { frames := 3, cells := 0, slots := 0, locals := 74 }, 0, 0)
def M_X8_same : xM := (yX8_same, cX8_same, 4, (some .int), { frames := 5, cells := 0, slots := 0, locals := 121 }, 0, 0)
def M_X8_apart : xM := (yX8_apart, cX8_apart, 4, (some .int), { frames := 5, cells := 0, slots := 0, locals := 121 }, 0, 0)
def M_X8_heap : xM := (yX8_heap, cX8_heap, 3, (some .int), { frames := 5, cells := 0, slots := 0, locals := 121 }, 0, 0)
def M_X8_least : xM := (yX8_least, cX8_least, 3, (some .int), { frames := 5, cells := 0, slots := 0, locals := 121 }, 0, 0)
def M_X8_order : xM := (yX8_order, cX8_order, 3, (some .int), { frames := 3, cells := 0, slots := 0, locals := 80 }, 0, 0)
def M_X8_orbits : xM := (yX8_orbits, cX8_orbits, 2, (some .int), { frames := 3, cells := 0, slots := 0, locals := 75 }, 0, 0)
def M_X8_orbit : xM := (yX8_orbit, cX8_orbit, 3, (some .int), { frames := 3, cells := 0, slots := 0, locals := 77 }, 0, 0)
def M_X8_far : xM := (yX8_far, cX8_far, 5, (some .int), { frames := 3, cells := 0, slots := 0, locals := 77 }, 0, 0)
def M_X8_way : xM := (yX8_way, cX8_way, 6, (some .int), { frames := 4, cells := 0, slots := 0, locals := 101 }, 0, 0)
def M_X8_reach : xM := (yX8_reach, cX8_reach, 4, (some .int), { frames := 3, cells := 0, slots := 0, locals := 77 }, 0, 0)
def M_X8_group : xM := (yX8_group, cX8_group, 4, (some .int), { frames := 4, cells := 0, slots := 0, locals := 102 }, 0, 0)
def M_X8_growth : xM := (yX8_growth, cX8_growth, 3, (some .int), { frames := 6, cells := 0, slots := 0, locals := 144 }, 0, 0)
def M_X8_laws : xM := (yX8_laws, cX8_laws, 3, (some .int), { frames := 6, cells := 0, slots := 0, locals := 144 }, 0, 0)
def M_X8_law : xM := (yX8_law, cX8_law, 6, (some .int), { frames := 6, cells := 0, slots := 0, locals := 144 }, 0, 0)
def M_X8_fall : xM := (yX8_fall, cX8_fall, 3, (some .int), { frames := 6, cells := 0, slots := 0, locals := 150 }, 0, 0)
def M_X8_fallen : xM := (yX8_fallen, cX8_fallen, 5, (some .int), { frames := 6, cells := 0, slots := 0, locals := 150 }, 0, 0)
def M_X8_isSheet : xM := (yX8_isSheet, cX8_isSheet, 1, (some .boolean), { frames := 0, cells := 0, slots := 0, locals := 0 }, 0, 0)
def M_X8_isSpot : xM := (yX8_isSpot, cX8_isSpot, 1, (some .boolean), { frames := 0, cells := 0, slots := 0, locals := 0 }, 0, 0)
def M_X8_isGoal : xM := (yX8_isGoal, cX8_isGoal, 1, (some .boolean), { frames := 0, cells := 0, slots := 0, locals := 0 }, 0, 0)
def M_X8_markOf : xM := (yX8_markOf, cX8_markOf, 1, (some .int), { frames := 0, cells := 0, slots := 0, locals := 0 }, 0, 0)
def M_X8_tokenOf : xM := (yX8_tokenOf, cX8_tokenOf, 2, (some .int), { frames := 0, cells := 0, slots := 0, locals := 0 }, 0, 0)
def M_X8_forgetAnswers : xM := (yX8_forgetAnswers, cX8_forgetAnswers, 1, none, { frames := 1, cells := 0, slots := 0, locals := 20 }, 0, 0)
def M_X8_hasLostWayBack : xM := (yX8_hasLostWayBack, cX8_hasLostWayBack, 4, (some .boolean), { frames := 1, cells := 0, slots := 0, locals := 21 }, 0, 0)
def M_X8_hasBackStates : xM := (yX8_hasBackStates, cX8_hasBackStates, 3, (some .boolean), { frames := 1, cells := 0, slots := 0, locals := 21 }, 0, 0)
def M_X8_refusalOfGiven : xM := (yX8_refusalOfGiven, cX8_refusalOfGiven, 4, (some .int), { frames := 1, cells := 0, slots := 0, locals := 21 }, 0, 0)
def M_X8_bring : xM := (yX8_bring, cX8_bring, 3, (some .int), { frames := 1, cells := 0, slots := 0, locals := 21 }, 0, 0)
def M_X8_join : xM := (yX8_join, cX8_join, 8, (some .int), { frames := 2, cells := 0, slots := 0, locals := 43 }, 0, 0)
def M_X8_walkDown : xM := (yX8_walkDown, cX8_walkDown, 6, (some .int), { frames := 2, cells := 0, slots := 0, locals := 49 }, 0, 0)
def M_X8_gather : xM := (yX8_gather, cX8_gather, 3, (some .int), { frames := 4, cells := 0, slots := 0, locals := 99 }, 0, 0)
def M_X8_levelOf : xM := (yX8_levelOf, cX8_levelOf, 3, (some .int), { frames := 2, cells := 0, slots := 0, locals := 45 }, 0, 0)
def M_X8_walkFrom : xM := (yX8_walkFrom, cX8_walkFrom, 3, (some .int), { frames := 2, cells := 0, slots := 0, locals := 55 }, 0, 0)
def M_X9_in : xM := (yX9_in, cX9_in, 6, (some .boolean), { frames := 0, cells := 0, slots := 0, locals := 0 }, 0, 0)
def M_X9_isSheet : xM := (yX9_isSheet, cX9_isSheet, 1, (some .boolean), { frames := 1, cells := 0, slots := 0, locals := 25 }, 0, 0)
def M_X9_isSpot : xM := (yX9_isSpot, cX9_isSpot, 1, (some .boolean), { frames := 1, cells := 0, slots := 0, locals := 25 }, 0, 0)
def M_X9_sheet : xM := (yX9_sheet, cX9_sheet, 5, (some .int), { frames := 2, cells := 0, slots := 0, locals := 45 }, 0, 0)
def M_X9_cell : xM := (yX9_cell, cX9_cell, 4, (some .int), { frames := 2, cells := 0, slots := 0, locals := 45 }, 0, 0)
def M_X9_told : xM := (yX9_told, cX9_told, 3, (some .int), { frames := 2, cells := 0, slots := 0, locals := 45 }, 0, 0)
def M_X9_lose : xM := (yX9_lose, cX9_lose, 2, (some .int), { frames := 2, cells := 0, slots := 0, locals := 45 }, 0, 0)
def M_X9_letters : xM := (yX9_letters, cX9_letters, 3, (some .int), { frames := 1, cells := 0, slots := 0, locals := 25 }, 0, 0)
def M_X9_state : xM := (yX9_state, cX9_state, 8, (some .int), { frames := 2, cells := 0, slots := 0, locals := 45 }, 0, 0)
def M_X9_isFair : xM := (yX9_isFair, cX9_isFair, 5, (some .boolean), { frames := 0, cells := 0, slots := 0, locals := 0 }, 0, 0)
def M_X9_isBack : xM := (yX9_isBack, cX9_isBack, 5, (some .boolean), { frames := 1, cells := 0, slots := 0, locals := 24 }, 0, 0)
def M_X9_change : xM := (yX9_change, cX9_change, 9, (some .int), { frames := 2, cells := 0, slots := 0, locals := 48 }, 0, 0)
def M_X9_of : xM := (yX9_of, cX9_of, 4, (some .int), { frames := 2, cells := 0, slots := 0, locals := 48 }, 0, 0)
def M_X9_isWhole : xM := (yX9_isWhole, cX9_isWhole, 4, (some .boolean), { frames := 0, cells := 0, slots := 0, locals := 0 }, 0, 0)
def M_X9_findTokens : xM := (yX9_findTokens, cX9_findTokens, 2, none, { frames := 2, cells := 0, slots := 0, locals := 48 }, 0, 0)
def M_X9_many : xM := (yX9_many, cX9_many, 2, (some .int), { frames := 3, cells := 0, slots := 0, locals := 69 }, 0, 0)
def M_X9_add : xM := (yX9_add, cX9_add, 4, none, { frames := 0, cells := 0, slots := 0, locals := 0 }, 0, 0)
def M_X9_copy : xM := (yX9_copy, cX9_copy, 4, none, { frames := 0, cells := 0, slots := 0, locals := 0 }, 0, 0)
def M_X9_put : xM := (yX9_put, cX9_put, 9, (some .int), { frames := 2, cells := 0, slots := 0, locals := 48 }, 0, 0)
def M_X9_wipe : xM := (yX9_wipe, cX9_wipe, 3, (some .int), { frames := 2, cells := 0, slots := 0, locals := 45 }, 0, 0)
def M_X9_size : xM := (yX9_size, cX9_size, 2, (some .int), { frames := 2, cells := 0, slots := 0, locals := 45 }, 0, 0)
def M_X9_token : xM := (yX9_token, cX9_token, 3, (some .int), { frames := 2, cells := 0, slots := 0, locals := 45 }, 0, 0)
def M_X9_times : xM := (yX9_times, cX9_times, 5, (some .int), { frames := 2, cells := 0, slots := 0, locals := 45 }, 0, 0)
def M_X9_turn : xM := (yX9_turn, cX9_turn, 5, (some .int), { frames := 2, cells := 0, slots := 0, locals := 48 }, 0, 0)
def M_X9_step : xM := (yX9_step, cX9_step, 5, none, { frames := 0, cells := 0, slots := 0, locals := 0 }, 0, 0)
def M_X9_partAt : xM := (yX9_partAt, cX9_partAt, 6, (some .int), { frames := 1, cells := 0, slots := 0, locals := 24 }, 0, 0)
def M_X9_takeRow : xM := (yX9_takeRow, cX9_takeRow, 6, (some .boolean), { frames := 0, cells := 0, slots := 0, locals := 0 }, 0, 0)
def M_X9_rowNumber : xM := (yX9_rowNumber, cX9_rowNumber, 3, (some .int), { frames := 0, cells := 0, slots := 0, locals := 0 }, 0, 0)
def M_X9_rewrite : xM := (yX9_rewrite, cX9_rewrite, 4, none, { frames := 1, cells := 0, slots := 0, locals := 24 }, 0, 0)
def M_X9_act : xM := (yX9_act, cX9_act, 4, (some .int), { frames := 2, cells := 0, slots := 0, locals := 47 }, 0, 0)
def M_X9_partAtRow : xM := (yX9_partAtRow, cX9_partAtRow, 5, none, { frames := 2, cells := 0, slots := 0, locals := 49 }, 0, 0)
def M_X9_part : xM := (yX9_part, cX9_part, 4, (some .int), { frames := 3, cells := 0, slots := 0, locals := 73 }, 0, 0)
def M_X9_findInHeap : xM := (yX9_findInHeap, cX9_findInHeap, 6, (some .int), { frames := 0, cells := 0, slots := 0, locals := 0 }, 0, 0)
def M_X9_toHeap : xM := (yX9_toHeap, cX9_toHeap, 4, (some .int), { frames := 1, cells := 0, slots := 0, locals := 25 }, 0, 0)
def M_X9_fromHeap : xM := (yX9_fromHeap, cX9_fromHeap, 4, none, { frames := 0, cells := 0, slots := 0, locals := 0 }, 0, 0)
def M_X9_grow : xM := (yX9_grow, cX9_grow, 2, (some .boolean), { frames := 2, cells := 0, slots := 0, locals := 49 }, 0, 0)
def M_X9_beginHeap : xM := (yX9_beginHeap, cX9_beginHeap, 1, none, { frames := 0, cells := 0, slots := 0, locals := 0 }, 0, 0)
def M_X9_isSameNow : xM := (yX9_isSameNow, cX9_isSameNow, 5, (some .boolean), { frames := 0, cells := 0, slots := 0, locals := 0 }, 0, 0)
def M_X9_partOnce : xM := (yX9_partOnce, cX9_partOnce, 4, (some .int), { frames := 1, cells := 0, slots := 0, locals := 24 }, 0, 0)
def M_X9_partAll : xM := (yX9_partAll, cX9_partAll, 6, (some .int), { frames := 2, cells := 0, slots := 0, locals := 47 }, 0, 0)
def M_X9_takeTwo : xM := (yX9_takeTwo, cX9_takeTwo, 4, (some .int), { frames := 3, cells := 0, slots := 0, locals := 72 }, 0, 0)
def M_X9_same : xM := (yX9_same, cX9_same, 4, (some .int), { frames := 4, cells := 0, slots := 0, locals := 95 }, 0, 0)
def M_X9_apart : xM := (yX9_apart, cX9_apart, 10, (some .int), { frames := 4, cells := 0, slots := 0, locals := 95 }, 0, 0)
def M_X9_isParted : xM := (yX9_isParted, cX9_isParted, 6, (some .boolean), { frames := 0, cells := 0, slots := 0, locals := 0 }, 0, 0)
def M_X9_heap : xM := (yX9_heap, cX9_heap, 3, (some .int), { frames := 4, cells := 0, slots := 0, locals := 95 }, 0, 0)
def M_X9_least : xM := (yX9_least, cX9_least, 3, (some .int), { frames := 4, cells := 0, slots := 0, locals := 95 }, 0, 0)
def M_X9_rowsOf : xM := (yX9_rowsOf, cX9_rowsOf, 5, (some .int), { frames := 0, cells := 0, slots := 0, locals := 0 }, 0, 0)
def M_X9_rowAt : xM := (yX9_rowAt, cX9_rowAt, 5, none, { frames := 0, cells := 0, slots := 0, locals := 0 }, 0, 0)
def M_X9_placeNow : xM := (yX9_placeNow, cX9_placeNow, 3, (some .int), { frames := 0, cells := 0, slots := 0, locals := 0 }, 0, 0)
def M_X9_findLevel : xM := (yX9_findLevel, cX9_findLevel, 4, none, { frames := 3, cells := 0, slots := 0, locals := 69 }, 0, 0)
def M_X9_isTokenBack : xM := (yX9_isTokenBack, cX9_isTokenBack, 2, (some .boolean), { frames := 2, cells := 0, slots := 0, locals := 48 }, 0, 0)
def M_X9_common : xM := (yX9_common, cX9_common, 10, (some .long), { frames := 0, cells := 0, slots := 0, locals := 0 }, 0, 0)
def M_X9_order : xM := (yX9_order, cX9_order, 10, (some .int), { frames := 3, cells := 0, slots := 0, locals := 69 }, 0, 0)
def M_X9_orbits : xM := (yX9_orbits, cX9_orbits, 6, (some .int), { frames := 4, cells := 0, slots := 0, locals := 92 }, 0, 0)
def M_X9_takeLevel : xM := (yX9_takeLevel, cX9_takeLevel, 2, (some .int), { frames := 4, cells := 0, slots := 0, locals := 92 }, 0, 0)
def M_X9_findFar : xM := (yX9_findFar, cX9_findFar, 6, none, { frames := 0, cells := 0, slots := 0, locals := 0 }, 0, 0)
def M_X9_orbit : xM := (yX9_orbit, cX9_orbit, 5, (some .int), { frames := 5, cells := 0, slots := 0, locals := 113 }, 0, 0)
def M_X9_takeRows : xM := (yX9_takeRows, cX9_takeRows, 4, (some .int), { frames := 5, cells := 0, slots := 0, locals := 113 }, 0, 0)
def M_X9_far : xM := (yX9_far, cX9_far, 4, (some .int), { frames := 6, cells := 0, slots := 0, locals := 136 }, 0, 0)
def M_X9_findFarTo : xM := (yX9_findFarTo, cX9_findFarTo, 5, none, { frames := 0, cells := 0, slots := 0, locals := 0 }, 0, 0)
def M_X9_way : xM := (yX9_way, cX9_way, 9, (some .int), { frames := 7, cells := 0, slots := 0, locals := 159 }, 0, 0)
def M_X9_reach : xM := (yX9_reach, cX9_reach, 5, (some .int), { frames := 5, cells := 0, slots := 0, locals := 113 }, 0, 0)
def M_X9_toGroup : xM := (yX9_toGroup, cX9_toGroup, 6, (some .boolean), { frames := 0, cells := 0, slots := 0, locals := 0 }, 0, 0)
def M_X9_made : xM := (yX9_made, cX9_made, 8, (some .long), { frames := 0, cells := 0, slots := 0, locals := 0 }, 0, 0)
def M_X9_group : xM := (yX9_group, cX9_group, 7, (some .int), { frames := 4, cells := 0, slots := 0, locals := 92 }, 0, 0)
def M_X9_takeShort : xM := (yX9_takeShort, cX9_takeShort, 8, (some .int), { frames := 3, cells := 0, slots := 0, locals := 69 }, 0, 0)
def M_X9_growth : xM := (yX9_growth, cX9_growth, 4, (some .int), { frames := 4, cells := 0, slots := 0, locals := 96 }, 0, 0)
def M_X9_findLaw : xM := (yX9_findLaw, cX9_findLaw, 6, (some .int), { frames := 3, cells := 0, slots := 0, locals := 72 }, 0, 0)
def M_X9_laws : xM := (yX9_laws, cX9_laws, 3, (some .int), { frames := 4, cells := 0, slots := 0, locals := 97 }, 0, 0)
def M_X9_law : xM := (yX9_law, cX9_law, 6, (some .int), { frames := 4, cells := 0, slots := 0, locals := 97 }, 0, 0)
def M_X9_falls : xM := (yX9_falls, cX9_falls, 5, (some .boolean), { frames := 3, cells := 0, slots := 0, locals := 72 }, 0, 0)
def M_X9_beginFall : xM := (yX9_beginFall, cX9_beginFall, 3, (some .boolean), { frames := 3, cells := 0, slots := 0, locals := 72 }, 0, 0)
def M_X9_fallsAll : xM := (yX9_fallsAll, cX9_fallsAll, 6, (some .boolean), { frames := 4, cells := 0, slots := 0, locals := 96 }, 0, 0)
def M_X9_fall : xM := (yX9_fall, cX9_fall, 2, (some .int), { frames := 5, cells := 0, slots := 0, locals := 121 }, 0, 0)
def M_X9_fallen : xM := (yX9_fallen, cX9_fallen, 5, (some .int), { frames := 6, cells := 0, slots := 0, locals := 142 }, 0, 0)
def M_J9_max_7cf53 : xM := (yJ9_max_7cf53, cJ9_max_7cf53, 2, (some .int), { frames := 0, cells := 0, slots := 0, locals := 0 }, 0, 0)
def M_J9_max_f86c9 : xM := (yJ9_max_f86c9, cJ9_max_f86c9, 4, (some .long), { frames := 0, cells := 0, slots := 0, locals := 0 }, 0, 0)
def M_J9_min_7cf53 : xM := (yJ9_min_7cf53, cJ9_min_7cf53, 2, (some .int), { frames := 0, cells := 0, slots := 0, locals := 0 }, 0, 0)
def M_J7_fill_53178 : xM := (yJ7_fill_53178, cJ7_fill_53178, 4, none, { frames := 0, cells := 0, slots := 0, locals := 0 }, 0, 0)
def xcf (F' : xM) (n : Nat) : Prop := Cond.code F'.1 F'.2.1 F'.2.2.1 F'.2.2.2.1 ∈ xw ∧ Cond.initialized F'.1.cls ∈ xw ∧ (F'.1.cls ≠ "java/lang/invoke/MethodHandle" ∧ F'.1.cls ≠ "java/lang/invoke/VarHandle" ∧ (parseMethodDescriptor F'.1.desc).map (fun d => d.parameters.length) = some n) ∧ F'.2.2.2.2.1.cells = 0 ∧ F'.2.2.2.2.1.slots = 0
def xcfV (F' : xM) (n : Nat) : Prop := xcf F' n ∧ Cond.instanceMethod F'.1 ∈ xw ∧ Cond.selects F'.1.cls F'.1 F'.1 ∈ xw
def xcfS (F' : xM) (n : Nat) : Prop := xcf F' n ∧ Cond.static F'.1 ∈ xw
abbrev xrm (F F' : xM) : Prop := (F'.2.2.2.2.1.frames + 1 ≤ F.2.2.2.2.1.frames ∧ 8 + (F'.2.2.1 + 11) + F'.2.2.2.2.1.locals ≤ F.2.2.2.2.1.locals) ∧ F.2.2.2.2.2.1 ≤ F.2.2.2.2.1.cells ∧ F.2.2.2.2.2.2 ≤ F.2.2.2.2.1.slots
theorem xcb_of {F F' : xM} {n : Nat} (h : xcf F' n) (hR : xrm F F') : xcb F F' n := ⟨h.1, h.2.1, h.2.2.1, hR.1, h.2.2.2.1, h.2.2.2.2, hR.2.1, hR.2.2⟩
theorem xcv_of {F F' : xM} {ix n : Nat} (h : xcfV F' n) (hl : Cond.methodLink F.1.cls ix F'.1 ∈ xw) (hR : xrm F F') : xcv F F' ix n := ⟨xcb_of h.1 hR, hl, h.2.1, h.2.2⟩
theorem xcs_of {F F' : xM} {ix n : Nat} (h : xcfS F' n) (hl : Cond.methodLink F.1.cls ix F'.1 ∈ xw) (hR : xrm F F') : xcs F F' ix n := ⟨xcb_of h.1 hR, hl, h.2⟩
theorem wi_8 : Cond.initialized RX8 ∈ xw := xt 1 (by decide +kernel) rfl
theorem wi_7 : Cond.initialized RX7 ∈ xw := xt 2 (by decide +kernel) rfl
theorem wi_3 : Cond.initialized RX3 ∈ xw := xt 3 (by decide +kernel) rfl
theorem wi_2 : Cond.initialized RX2 ∈ xw := xt 4 (by decide +kernel) rfl
theorem wi_1 : Cond.initialized RX1 ∈ xw := xt 5 (by decide +kernel) rfl
theorem wi_0 : Cond.initialized RX0 ∈ xw := xt 6 (by decide +kernel) rfl
theorem wi_4 : Cond.initialized RX4 ∈ xw := xt 7 (by decide +kernel) rfl
theorem wi_6 : Cond.initialized RX6 ∈ xw := xt 8 (by decide +kernel) rfl
theorem wi_5 : Cond.initialized RX5 ∈ xw := xt 9 (by decide +kernel) rfl
theorem wi_9 : Cond.initialized RX9 ∈ xw := xt 10 (by decide +kernel) rfl
theorem wi_J7 : Cond.initialized RJ7 ∈ xw := xt 11 (by decide +kernel) rfl
theorem wi_J9 : Cond.initialized RJ9 ∈ xw := xt 13 (by decide +kernel) rfl
theorem cf_X0_clear : xcfV M_X0_clear 0 := ⟨⟨xt 565 (by decide +kernel) rfl, wi_0, ⟨by decide, by decide, by decide +kernel⟩, rfl, rfl⟩, xt 563 (by decide +kernel) rfl, xt 564 (by decide +kernel) rfl⟩
theorem cf_X0_find : xcfV M_X0_find 2 := ⟨⟨xt 612 (by decide +kernel) rfl, wi_0, ⟨by decide, by decide, by decide +kernel⟩, rfl, rfl⟩, xt 610 (by decide +kernel) rfl, xt 611 (by decide +kernel) rfl⟩
theorem cf_X0_add : xcfV M_X0_add 2 := ⟨⟨xt 575 (by decide +kernel) rfl, wi_0, ⟨by decide, by decide, by decide +kernel⟩, rfl, rfl⟩, xt 573 (by decide +kernel) rfl, xt 574 (by decide +kernel) rfl⟩
theorem cf_X0_slotOf : xcfV M_X0_slotOf 2 := ⟨⟨xt 579 (by decide +kernel) rfl, wi_0, ⟨by decide, by decide, by decide +kernel⟩, rfl, rfl⟩, xt 578 (by decide +kernel) rfl, xp (by decide +kernel) rfl⟩
theorem cf_X1_begin : xcfV M_X1_begin 1 := ⟨⟨xt 740 (by decide +kernel) rfl, wi_1, ⟨by decide, by decide, by decide +kernel⟩, rfl, rfl⟩, xt 738 (by decide +kernel) rfl, xt 739 (by decide +kernel) rfl⟩
theorem cf_X1_bringIn : xcfV M_X1_bringIn 1 := ⟨⟨xt 750 (by decide +kernel) rfl, wi_1, ⟨by decide, by decide, by decide +kernel⟩, rfl, rfl⟩, xt 748 (by decide +kernel) rfl, xt 749 (by decide +kernel) rfl⟩
theorem cf_X1_addBlock : xcfV M_X1_addBlock 2 := ⟨⟨xt 761 (by decide +kernel) rfl, wi_1, ⟨by decide, by decide, by decide +kernel⟩, rfl, rfl⟩, xt 760 (by decide +kernel) rfl, xp (by decide +kernel) rfl⟩
theorem cf_X1_behind : xcfV M_X1_behind 2 := ⟨⟨xt 756 (by decide +kernel) rfl, wi_1, ⟨by decide, by decide, by decide +kernel⟩, rfl, rfl⟩, xt 755 (by decide +kernel) rfl, xp (by decide +kernel) rfl⟩
theorem cf_X2_forget : xcfV M_X2_forget 0 := ⟨⟨xt 404 (by decide +kernel) rfl, wi_2, ⟨by decide, by decide, by decide +kernel⟩, rfl, rfl⟩, xt 402 (by decide +kernel) rfl, xt 403 (by decide +kernel) rfl⟩
theorem cf_X2_forgetRows : xcfV M_X2_forgetRows 0 := ⟨⟨xt 668 (by decide +kernel) rfl, wi_2, ⟨by decide, by decide, by decide +kernel⟩, rfl, rfl⟩, xt 666 (by decide +kernel) rfl, xt 667 (by decide +kernel) rfl⟩
theorem cf_X2_build : xcfV M_X2_build 2 := ⟨⟨xt 656 (by decide +kernel) rfl, wi_2, ⟨by decide, by decide, by decide +kernel⟩, rfl, rfl⟩, xt 654 (by decide +kernel) rfl, xt 655 (by decide +kernel) rfl⟩
theorem cf_X2_buildBranch : xcfV M_X2_buildBranch 4 := ⟨⟨xt 660 (by decide +kernel) rfl, wi_2, ⟨by decide, by decide, by decide +kernel⟩, rfl, rfl⟩, xt 659 (by decide +kernel) rfl, xp (by decide +kernel) rfl⟩
theorem cf_X2_spread : xcfV M_X2_spread 4 := ⟨⟨xt 696 (by decide +kernel) rfl, wi_2, ⟨by decide, by decide, by decide +kernel⟩, rfl, rfl⟩, xt 694 (by decide +kernel) rfl, xt 695 (by decide +kernel) rfl⟩
theorem cf_X2_countBackOrbits : xcfV M_X2_countBackOrbits 2 := ⟨⟨xt 692 (by decide +kernel) rfl, wi_2, ⟨by decide, by decide, by decide +kernel⟩, rfl, rfl⟩, xt 690 (by decide +kernel) rfl, xt 691 (by decide +kernel) rfl⟩
theorem cf_X2_markOfMove : xcfV M_X2_markOfMove 3 := ⟨⟨xt 728 (by decide +kernel) rfl, wi_2, ⟨by decide, by decide, by decide +kernel⟩, rfl, rfl⟩, xt 726 (by decide +kernel) rfl, xt 727 (by decide +kernel) rfl⟩
theorem cf_X2_roundsToRest : xcfV M_X2_roundsToRest 2 := ⟨⟨xt 664 (by decide +kernel) rfl, wi_2, ⟨by decide, by decide, by decide +kernel⟩, rfl, rfl⟩, xt 662 (by decide +kernel) rfl, xt 663 (by decide +kernel) rfl⟩
theorem cf_X2_ringLength : xcfV M_X2_ringLength 3 := ⟨⟨xt 673 (by decide +kernel) rfl, wi_2, ⟨by decide, by decide, by decide +kernel⟩, rfl, rfl⟩, xt 672 (by decide +kernel) rfl, xp (by decide +kernel) rfl⟩
theorem cf_X2_commonDivisor : xcfS M_X2_commonDivisor 2 := ⟨⟨xt 680 (by decide +kernel) rfl, wi_2, ⟨by decide, by decide, by decide +kernel⟩, rfl, rfl⟩, xt 679 (by decide +kernel) rfl⟩
theorem cf_X2_packed : xcfV M_X2_packed 2 := ⟨⟨xt 746 (by decide +kernel) rfl, wi_2, ⟨by decide, by decide, by decide +kernel⟩, rfl, rfl⟩, xt 744 (by decide +kernel) rfl, xt 745 (by decide +kernel) rfl⟩
theorem cf_X3_restart : xcfV M_X3_restart 1 := ⟨⟨xt 372 (by decide +kernel) rfl, wi_3, ⟨by decide, by decide, by decide +kernel⟩, rfl, rfl⟩, xt 370 (by decide +kernel) rfl, xt 371 (by decide +kernel) rfl⟩
theorem cf_X3_isState : xcfV M_X3_isState 1 := ⟨⟨xt 443 (by decide +kernel) rfl, wi_3, ⟨by decide, by decide, by decide +kernel⟩, rfl, rfl⟩, xt 441 (by decide +kernel) rfl, xt 442 (by decide +kernel) rfl⟩
theorem cf_X3_isLetter : xcfV M_X3_isLetter 1 := ⟨⟨xt 428 (by decide +kernel) rfl, wi_3, ⟨by decide, by decide, by decide +kernel⟩, rfl, rfl⟩, xt 426 (by decide +kernel) rfl, xt 427 (by decide +kernel) rfl⟩
theorem cf_X3_isBack : xcfV M_X3_isBack 1 := ⟨⟨xt 392 (by decide +kernel) rfl, wi_3, ⟨by decide, by decide, by decide +kernel⟩, rfl, rfl⟩, xt 390 (by decide +kernel) rfl, xt 391 (by decide +kernel) rfl⟩
theorem cf_X3_canRead : xcfV M_X3_canRead 2 := ⟨⟨xt 420 (by decide +kernel) rfl, wi_3, ⟨by decide, by decide, by decide +kernel⟩, rfl, rfl⟩, xt 418 (by decide +kernel) rfl, xt 419 (by decide +kernel) rfl⟩
theorem cf_X3_read : xcfV M_X3_read 2 := ⟨⟨xt 435 (by decide +kernel) rfl, wi_3, ⟨by decide, by decide, by decide +kernel⟩, rfl, rfl⟩, xt 433 (by decide +kernel) rfl, xt 434 (by decide +kernel) rfl⟩
theorem cf_X3_rewire : xcfV M_X3_rewire 4 := ⟨⟨xt 449 (by decide +kernel) rfl, wi_3, ⟨by decide, by decide, by decide +kernel⟩, rfl, rfl⟩, xt 447 (by decide +kernel) rfl, xt 448 (by decide +kernel) rfl⟩
theorem cf_X3_refresh : xcfV M_X3_refresh 0 := ⟨⟨xt 376 (by decide +kernel) rfl, wi_3, ⟨by decide, by decide, by decide +kernel⟩, rfl, rfl⟩, xt 375 (by decide +kernel) rfl, xp (by decide +kernel) rfl⟩
theorem cf_X3_goals : xcfV M_X3_goals 1 := ⟨⟨xt 380 (by decide +kernel) rfl, wi_3, ⟨by decide, by decide, by decide +kernel⟩, rfl, rfl⟩, xt 379 (by decide +kernel) rfl, xp (by decide +kernel) rfl⟩
theorem cf_X3_writesUnlike : xcfV M_X3_writesUnlike 1 := ⟨⟨xt 384 (by decide +kernel) rfl, wi_3, ⟨by decide, by decide, by decide +kernel⟩, rfl, rfl⟩, xt 383 (by decide +kernel) rfl, xp (by decide +kernel) rfl⟩
theorem cf_X3_listMarks : xcfV M_X3_listMarks 0 := ⟨⟨xt 388 (by decide +kernel) rfl, wi_3, ⟨by decide, by decide, by decide +kernel⟩, rfl, rfl⟩, xt 387 (by decide +kernel) rfl, xp (by decide +kernel) rfl⟩
theorem cf_X3_wireMarks : xcfV M_X3_wireMarks 2 := ⟨⟨xt 396 (by decide +kernel) rfl, wi_3, ⟨by decide, by decide, by decide +kernel⟩, rfl, rfl⟩, xt 395 (by decide +kernel) rfl, xp (by decide +kernel) rfl⟩
theorem cf_X3_rowLength : xcfV M_X3_rowLength 1 := ⟨⟨xt 531 (by decide +kernel) rfl, wi_3, ⟨by decide, by decide, by decide +kernel⟩, rfl, rfl⟩, xt 529 (by decide +kernel) rfl, xt 530 (by decide +kernel) rfl⟩
theorem cf_X3_hasLetters : xcfV M_X3_hasLetters 2 := ⟨⟨xt 535 (by decide +kernel) rfl, wi_3, ⟨by decide, by decide, by decide +kernel⟩, rfl, rfl⟩, xt 534 (by decide +kernel) rfl, xp (by decide +kernel) rfl⟩
theorem cf_X3_rowIndex : xcfV M_X3_rowIndex 2 := ⟨⟨xt 714 (by decide +kernel) rfl, wi_3, ⟨by decide, by decide, by decide +kernel⟩, rfl, rfl⟩, xt 712 (by decide +kernel) rfl, xt 713 (by decide +kernel) rfl⟩
theorem cf_X3_power : xcfV M_X3_power 2 := ⟨⟨xt 652 (by decide +kernel) rfl, wi_3, ⟨by decide, by decide, by decide +kernel⟩, rfl, rfl⟩, xt 650 (by decide +kernel) rfl, xt 651 (by decide +kernel) rfl⟩
theorem cf_X4_reset : xcfV M_X4_reset 0 := ⟨⟨xt 561 (by decide +kernel) rfl, wi_4, ⟨by decide, by decide, by decide +kernel⟩, rfl, rfl⟩, xt 559 (by decide +kernel) rfl, xt 560 (by decide +kernel) rfl⟩
theorem cf_X4_indexOf : xcfV M_X4_indexOf 1 := ⟨⟨xt 608 (by decide +kernel) rfl, wi_4, ⟨by decide, by decide, by decide +kernel⟩, rfl, rfl⟩, xt 606 (by decide +kernel) rfl, xt 607 (by decide +kernel) rfl⟩
theorem cf_X4_load : xcfV M_X4_load 2 := ⟨⟨xt 588 (by decide +kernel) rfl, wi_4, ⟨by decide, by decide, by decide +kernel⟩, rfl, rfl⟩, xt 586 (by decide +kernel) rfl, xt 587 (by decide +kernel) rfl⟩
theorem cf_X4_enter : xcfV M_X4_enter 1 := ⟨⟨xt 783 (by decide +kernel) rfl, wi_4, ⟨by decide, by decide, by decide +kernel⟩, rfl, rfl⟩, xt 781 (by decide +kernel) rfl, xt 782 (by decide +kernel) rfl⟩
theorem cf_X4_take : xcfV M_X4_take 2 := ⟨⟨xt 571 (by decide +kernel) rfl, wi_4, ⟨by decide, by decide, by decide +kernel⟩, rfl, rfl⟩, xt 569 (by decide +kernel) rfl, xt 570 (by decide +kernel) rfl⟩
theorem cf_X4_followParts : xcfV M_X4_followParts 1 := ⟨⟨xt 584 (by decide +kernel) rfl, wi_4, ⟨by decide, by decide, by decide +kernel⟩, rfl, rfl⟩, xt 582 (by decide +kernel) rfl, xt 583 (by decide +kernel) rfl⟩
theorem cf_X4_classify : xcfV M_X4_classify 0 := ⟨⟨xt 593 (by decide +kernel) rfl, wi_4, ⟨by decide, by decide, by decide +kernel⟩, rfl, rfl⟩, xt 591 (by decide +kernel) rfl, xt 592 (by decide +kernel) rfl⟩
theorem cf_X4_refine : xcfV M_X4_refine 0 := ⟨⟨xt 604 (by decide +kernel) rfl, wi_4, ⟨by decide, by decide, by decide +kernel⟩, rfl, rfl⟩, xt 603 (by decide +kernel) rfl, xp (by decide +kernel) rfl⟩
theorem cf_X4_keepRound : xcfV M_X4_keepRound 0 := ⟨⟨xt 597 (by decide +kernel) rfl, wi_4, ⟨by decide, by decide, by decide +kernel⟩, rfl, rfl⟩, xt 596 (by decide +kernel) rfl, xp (by decide +kernel) rfl⟩
theorem cf_X4_areAlike : xcfV M_X4_areAlike 2 := ⟨⟨xt 616 (by decide +kernel) rfl, wi_4, ⟨by decide, by decide, by decide +kernel⟩, rfl, rfl⟩, xt 614 (by decide +kernel) rfl, xt 615 (by decide +kernel) rfl⟩
theorem cf_X4_arePartedBy : xcfV M_X4_arePartedBy 3 := ⟨⟨xt 628 (by decide +kernel) rfl, wi_4, ⟨by decide, by decide, by decide +kernel⟩, rfl, rfl⟩, xt 627 (by decide +kernel) rfl, xp (by decide +kernel) rfl⟩
theorem cf_X4_partingRow : xcfV M_X4_partingRow 2 := ⟨⟨xt 624 (by decide +kernel) rfl, wi_4, ⟨by decide, by decide, by decide +kernel⟩, rfl, rfl⟩, xt 622 (by decide +kernel) rfl, xt 623 (by decide +kernel) rfl⟩
theorem cf_X4_firstPartingLetter : xcfV M_X4_firstPartingLetter 3 := ⟨⟨xt 632 (by decide +kernel) rfl, wi_4, ⟨by decide, by decide, by decide +kernel⟩, rfl, rfl⟩, xt 631 (by decide +kernel) rfl, xp (by decide +kernel) rfl⟩
theorem cf_X4_firstUnlikeLetter : xcfV M_X4_firstUnlikeLetter 1 := ⟨⟨xt 636 (by decide +kernel) rfl, wi_4, ⟨by decide, by decide, by decide +kernel⟩, rfl, rfl⟩, xt 635 (by decide +kernel) rfl, xp (by decide +kernel) rfl⟩
theorem cf_X5_lay : xcfV M_X5_lay 2 := ⟨⟨xt 340 (by decide +kernel) rfl, wi_5, ⟨by decide, by decide, by decide +kernel⟩, rfl, rfl⟩, xt 338 (by decide +kernel) rfl, xt 339 (by decide +kernel) rfl⟩
theorem cf_X5_hasNumber : xcfV M_X5_hasNumber 1 := ⟨⟨xt 351 (by decide +kernel) rfl, wi_5, ⟨by decide, by decide, by decide +kernel⟩, rfl, rfl⟩, xt 349 (by decide +kernel) rfl, xt 350 (by decide +kernel) rfl⟩
theorem cf_X5_hasPair : xcfV M_X5_hasPair 2 := ⟨⟨xt 424 (by decide +kernel) rfl, wi_5, ⟨by decide, by decide, by decide +kernel⟩, rfl, rfl⟩, xt 422 (by decide +kernel) rfl, xt 423 (by decide +kernel) rfl⟩
theorem cf_X5_write : xcfV M_X5_write 2 := ⟨⟨xt 355 (by decide +kernel) rfl, wi_5, ⟨by decide, by decide, by decide +kernel⟩, rfl, rfl⟩, xt 353 (by decide +kernel) rfl, xt 354 (by decide +kernel) rfl⟩
theorem cf_X6_forget : xcfV M_X6_forget 0 := ⟨⟨xt 408 (by decide +kernel) rfl, wi_6, ⟨by decide, by decide, by decide +kernel⟩, rfl, rfl⟩, xt 406 (by decide +kernel) rfl, xt 407 (by decide +kernel) rfl⟩
theorem cf_X6_gatherWithin : xcfV M_X6_gatherWithin 2 := ⟨⟨xt 769 (by decide +kernel) rfl, wi_6, ⟨by decide, by decide, by decide +kernel⟩, rfl, rfl⟩, xt 767 (by decide +kernel) rfl, xt 768 (by decide +kernel) rfl⟩
theorem cf_X6_enterWithin : xcfV M_X6_enterWithin 2 := ⟨⟨xt 773 (by decide +kernel) rfl, wi_6, ⟨by decide, by decide, by decide +kernel⟩, rfl, rfl⟩, xt 772 (by decide +kernel) rfl, xp (by decide +kernel) rfl⟩
theorem cf_X6_beginWithEmpty : xcfV M_X6_beginWithEmpty 0 := ⟨⟨xt 777 (by decide +kernel) rfl, wi_6, ⟨by decide, by decide, by decide +kernel⟩, rfl, rfl⟩, xt 776 (by decide +kernel) rfl, xp (by decide +kernel) rfl⟩
theorem cf_X6_extend : xcfV M_X6_extend 2 := ⟨⟨xt 787 (by decide +kernel) rfl, wi_6, ⟨by decide, by decide, by decide +kernel⟩, rfl, rfl⟩, xt 786 (by decide +kernel) rfl, xp (by decide +kernel) rfl⟩
theorem cf_X6_isLaw : xcfV M_X6_isLaw 1 := ⟨⟨xt 803 (by decide +kernel) rfl, wi_6, ⟨by decide, by decide, by decide +kernel⟩, rfl, rfl⟩, xt 802 (by decide +kernel) rfl, xp (by decide +kernel) rfl⟩
theorem cf_X6_countLaws : xcfV M_X6_countLaws 0 := ⟨⟨xt 799 (by decide +kernel) rfl, wi_6, ⟨by decide, by decide, by decide +kernel⟩, rfl, rfl⟩, xt 797 (by decide +kernel) rfl, xt 798 (by decide +kernel) rfl⟩
theorem cf_X6_findLaw : xcfV M_X6_findLaw 1 := ⟨⟨xt 812 (by decide +kernel) rfl, wi_6, ⟨by decide, by decide, by decide +kernel⟩, rfl, rfl⟩, xt 810 (by decide +kernel) rfl, xt 811 (by decide +kernel) rfl⟩
theorem cf_X6_gatherFallen : xcfV M_X6_gatherFallen 2 := ⟨⟨xt 821 (by decide +kernel) rfl, wi_6, ⟨by decide, by decide, by decide +kernel⟩, rfl, rfl⟩, xt 819 (by decide +kernel) rfl, xt 820 (by decide +kernel) rfl⟩
theorem cf_X6_lookAtParts : xcfV M_X6_lookAtParts 3 := ⟨⟨xt 828 (by decide +kernel) rfl, wi_6, ⟨by decide, by decide, by decide +kernel⟩, rfl, rfl⟩, xt 827 (by decide +kernel) rfl, xp (by decide +kernel) rfl⟩
theorem cf_X6_addUnlike : xcfV M_X6_addUnlike 0 := ⟨⟨xt 835 (by decide +kernel) rfl, wi_6, ⟨by decide, by decide, by decide +kernel⟩, rfl, rfl⟩, xt 834 (by decide +kernel) rfl, xp (by decide +kernel) rfl⟩
theorem cf_X7_empty : xcfV M_X7_empty 0 := ⟨⟨xt 412 (by decide +kernel) rfl, wi_7, ⟨by decide, by decide, by decide +kernel⟩, rfl, rfl⟩, xt 410 (by decide +kernel) rfl, xt 411 (by decide +kernel) rfl⟩
theorem cf_X7_copy : xcfV M_X7_copy 1 := ⟨⟨xt 492 (by decide +kernel) rfl, wi_7, ⟨by decide, by decide, by decide +kernel⟩, rfl, rfl⟩, xt 490 (by decide +kernel) rfl, xt 491 (by decide +kernel) rfl⟩
theorem cf_X7_mark : xcfV M_X7_mark 1 := ⟨⟨xt 457 (by decide +kernel) rfl, wi_7, ⟨by decide, by decide, by decide +kernel⟩, rfl, rfl⟩, xt 455 (by decide +kernel) rfl, xt 456 (by decide +kernel) rfl⟩
theorem cf_X7_push : xcfV M_X7_push 1 := ⟨⟨xt 484 (by decide +kernel) rfl, wi_7, ⟨by decide, by decide, by decide +kernel⟩, rfl, rfl⟩, xt 482 (by decide +kernel) rfl, xt 483 (by decide +kernel) rfl⟩
theorem cf_X7_descend : xcfV M_X7_descend 2 := ⟨⟨xt 543 (by decide +kernel) rfl, wi_7, ⟨by decide, by decide, by decide +kernel⟩, rfl, rfl⟩, xt 541 (by decide +kernel) rfl, xt 542 (by decide +kernel) rfl⟩
theorem cf_X8_sheet : xcfV M_X8_sheet 3 := ⟨⟨xt 333 (by decide +kernel) rfl, wi_8, ⟨by decide, by decide, by decide +kernel⟩, rfl, rfl⟩, xt 331 (by decide +kernel) rfl, xt 332 (by decide +kernel) rfl⟩
theorem cf_X8_cell : xcfV M_X8_cell 3 := ⟨⟨xt 347 (by decide +kernel) rfl, wi_8, ⟨by decide, by decide, by decide +kernel⟩, rfl, rfl⟩, xt 345 (by decide +kernel) rfl, xt 346 (by decide +kernel) rfl⟩
theorem cf_X8_told : xcfV M_X8_told 2 := ⟨⟨xt 359 (by decide +kernel) rfl, wi_8, ⟨by decide, by decide, by decide +kernel⟩, rfl, rfl⟩, xt 357 (by decide +kernel) rfl, xt 358 (by decide +kernel) rfl⟩
theorem cf_X8_lose : xcfV M_X8_lose 1 := ⟨⟨xt 364 (by decide +kernel) rfl, wi_8, ⟨by decide, by decide, by decide +kernel⟩, rfl, rfl⟩, xt 362 (by decide +kernel) rfl, xt 363 (by decide +kernel) rfl⟩
theorem cf_X8_letters : xcfV M_X8_letters 1 := ⟨⟨xt 368 (by decide +kernel) rfl, wi_8, ⟨by decide, by decide, by decide +kernel⟩, rfl, rfl⟩, xt 366 (by decide +kernel) rfl, xt 367 (by decide +kernel) rfl⟩
theorem cf_X8_state : xcfV M_X8_state 2 := ⟨⟨xt 416 (by decide +kernel) rfl, wi_8, ⟨by decide, by decide, by decide +kernel⟩, rfl, rfl⟩, xt 414 (by decide +kernel) rfl, xt 415 (by decide +kernel) rfl⟩
theorem cf_X8_change : xcfV M_X8_change 4 := ⟨⟨xt 439 (by decide +kernel) rfl, wi_8, ⟨by decide, by decide, by decide +kernel⟩, rfl, rfl⟩, xt 437 (by decide +kernel) rfl, xt 438 (by decide +kernel) rfl⟩
theorem cf_X8_of : xcfV M_X8_of 3 := ⟨⟨xt 462 (by decide +kernel) rfl, wi_8, ⟨by decide, by decide, by decide +kernel⟩, rfl, rfl⟩, xt 460 (by decide +kernel) rfl, xt 461 (by decide +kernel) rfl⟩
theorem cf_X8_many : xcfV M_X8_many 1 := ⟨⟨xt 466 (by decide +kernel) rfl, wi_8, ⟨by decide, by decide, by decide +kernel⟩, rfl, rfl⟩, xt 464 (by decide +kernel) rfl, xt 465 (by decide +kernel) rfl⟩
theorem cf_X8_put : xcfV M_X8_put 5 := ⟨⟨xt 470 (by decide +kernel) rfl, wi_8, ⟨by decide, by decide, by decide +kernel⟩, rfl, rfl⟩, xt 468 (by decide +kernel) rfl, xt 469 (by decide +kernel) rfl⟩
theorem cf_X8_wipe : xcfV M_X8_wipe 1 := ⟨⟨xt 500 (by decide +kernel) rfl, wi_8, ⟨by decide, by decide, by decide +kernel⟩, rfl, rfl⟩, xt 498 (by decide +kernel) rfl, xt 499 (by decide +kernel) rfl⟩
theorem cf_X8_size : xcfV M_X8_size 1 := ⟨⟨xt 504 (by decide +kernel) rfl, wi_8, ⟨by decide, by decide, by decide +kernel⟩, rfl, rfl⟩, xt 502 (by decide +kernel) rfl, xt 503 (by decide +kernel) rfl⟩
theorem cf_X8_token : xcfV M_X8_token 2 := ⟨⟨xt 508 (by decide +kernel) rfl, wi_8, ⟨by decide, by decide, by decide +kernel⟩, rfl, rfl⟩, xt 506 (by decide +kernel) rfl, xt 507 (by decide +kernel) rfl⟩
theorem cf_X8_times : xcfV M_X8_times 3 := ⟨⟨xt 515 (by decide +kernel) rfl, wi_8, ⟨by decide, by decide, by decide +kernel⟩, rfl, rfl⟩, xt 513 (by decide +kernel) rfl, xt 514 (by decide +kernel) rfl⟩
theorem cf_X8_turn : xcfV M_X8_turn 2 := ⟨⟨xt 519 (by decide +kernel) rfl, wi_8, ⟨by decide, by decide, by decide +kernel⟩, rfl, rfl⟩, xt 517 (by decide +kernel) rfl, xt 518 (by decide +kernel) rfl⟩
theorem cf_X8_act : xcfV M_X8_act 2 := ⟨⟨xt 527 (by decide +kernel) rfl, wi_8, ⟨by decide, by decide, by decide +kernel⟩, rfl, rfl⟩, xt 525 (by decide +kernel) rfl, xt 526 (by decide +kernel) rfl⟩
theorem cf_X8_part : xcfV M_X8_part 3 := ⟨⟨xt 549 (by decide +kernel) rfl, wi_8, ⟨by decide, by decide, by decide +kernel⟩, rfl, rfl⟩, xt 547 (by decide +kernel) rfl, xt 548 (by decide +kernel) rfl⟩
theorem cf_X8_same : xcfV M_X8_same 2 := ⟨⟨xt 553 (by decide +kernel) rfl, wi_8, ⟨by decide, by decide, by decide +kernel⟩, rfl, rfl⟩, xt 551 (by decide +kernel) rfl, xt 552 (by decide +kernel) rfl⟩
theorem cf_X8_apart : xcfV M_X8_apart 2 := ⟨⟨xt 620 (by decide +kernel) rfl, wi_8, ⟨by decide, by decide, by decide +kernel⟩, rfl, rfl⟩, xt 618 (by decide +kernel) rfl, xt 619 (by decide +kernel) rfl⟩
theorem cf_X8_heap : xcfV M_X8_heap 1 := ⟨⟨xt 640 (by decide +kernel) rfl, wi_8, ⟨by decide, by decide, by decide +kernel⟩, rfl, rfl⟩, xt 638 (by decide +kernel) rfl, xt 639 (by decide +kernel) rfl⟩
theorem cf_X8_least : xcfV M_X8_least 1 := ⟨⟨xt 644 (by decide +kernel) rfl, wi_8, ⟨by decide, by decide, by decide +kernel⟩, rfl, rfl⟩, xt 642 (by decide +kernel) rfl, xt 643 (by decide +kernel) rfl⟩
theorem cf_X8_order : xcfV M_X8_order 2 := ⟨⟨xt 648 (by decide +kernel) rfl, wi_8, ⟨by decide, by decide, by decide +kernel⟩, rfl, rfl⟩, xt 646 (by decide +kernel) rfl, xt 647 (by decide +kernel) rfl⟩
theorem cf_X8_orbits : xcfV M_X8_orbits 1 := ⟨⟨xt 688 (by decide +kernel) rfl, wi_8, ⟨by decide, by decide, by decide +kernel⟩, rfl, rfl⟩, xt 686 (by decide +kernel) rfl, xt 687 (by decide +kernel) rfl⟩
theorem cf_X8_orbit : xcfV M_X8_orbit 1 := ⟨⟨xt 701 (by decide +kernel) rfl, wi_8, ⟨by decide, by decide, by decide +kernel⟩, rfl, rfl⟩, xt 699 (by decide +kernel) rfl, xt 700 (by decide +kernel) rfl⟩
theorem cf_X8_far : xcfV M_X8_far 2 := ⟨⟨xt 719 (by decide +kernel) rfl, wi_8, ⟨by decide, by decide, by decide +kernel⟩, rfl, rfl⟩, xt 717 (by decide +kernel) rfl, xt 718 (by decide +kernel) rfl⟩
theorem cf_X8_way : xcfV M_X8_way 3 := ⟨⟨xt 723 (by decide +kernel) rfl, wi_8, ⟨by decide, by decide, by decide +kernel⟩, rfl, rfl⟩, xt 721 (by decide +kernel) rfl, xt 722 (by decide +kernel) rfl⟩
theorem cf_X8_reach : xcfV M_X8_reach 1 := ⟨⟨xt 732 (by decide +kernel) rfl, wi_8, ⟨by decide, by decide, by decide +kernel⟩, rfl, rfl⟩, xt 730 (by decide +kernel) rfl, xt 731 (by decide +kernel) rfl⟩
theorem cf_X8_group : xcfV M_X8_group 1 := ⟨⟨xt 736 (by decide +kernel) rfl, wi_8, ⟨by decide, by decide, by decide +kernel⟩, rfl, rfl⟩, xt 734 (by decide +kernel) rfl, xt 735 (by decide +kernel) rfl⟩
theorem cf_X8_growth : xcfV M_X8_growth 1 := ⟨⟨xt 765 (by decide +kernel) rfl, wi_8, ⟨by decide, by decide, by decide +kernel⟩, rfl, rfl⟩, xt 763 (by decide +kernel) rfl, xt 764 (by decide +kernel) rfl⟩
theorem cf_X8_laws : xcfV M_X8_laws 1 := ⟨⟨xt 795 (by decide +kernel) rfl, wi_8, ⟨by decide, by decide, by decide +kernel⟩, rfl, rfl⟩, xt 793 (by decide +kernel) rfl, xt 794 (by decide +kernel) rfl⟩
theorem cf_X8_law : xcfV M_X8_law 3 := ⟨⟨xt 808 (by decide +kernel) rfl, wi_8, ⟨by decide, by decide, by decide +kernel⟩, rfl, rfl⟩, xt 806 (by decide +kernel) rfl, xt 807 (by decide +kernel) rfl⟩
theorem cf_X8_fall : xcfV M_X8_fall 1 := ⟨⟨xt 817 (by decide +kernel) rfl, wi_8, ⟨by decide, by decide, by decide +kernel⟩, rfl, rfl⟩, xt 815 (by decide +kernel) rfl, xt 816 (by decide +kernel) rfl⟩
theorem cf_X8_fallen : xcfV M_X8_fallen 3 := ⟨⟨xt 840 (by decide +kernel) rfl, wi_8, ⟨by decide, by decide, by decide +kernel⟩, rfl, rfl⟩, xt 838 (by decide +kernel) rfl, xt 839 (by decide +kernel) rfl⟩
theorem cf_X8_isSheet : xcfS M_X8_isSheet 1 := ⟨⟨xt 336 (by decide +kernel) rfl, wi_8, ⟨by decide, by decide, by decide +kernel⟩, rfl, rfl⟩, xt 335 (by decide +kernel) rfl⟩
theorem cf_X8_isSpot : xcfS M_X8_isSpot 1 := ⟨⟨xt 473 (by decide +kernel) rfl, wi_8, ⟨by decide, by decide, by decide +kernel⟩, rfl, rfl⟩, xt 472 (by decide +kernel) rfl⟩
theorem cf_X8_isGoal : xcfS M_X8_isGoal 1 := ⟨⟨xt 431 (by decide +kernel) rfl, wi_8, ⟨by decide, by decide, by decide +kernel⟩, rfl, rfl⟩, xt 430 (by decide +kernel) rfl⟩
theorem cf_X8_markOf : xcfS M_X8_markOf 1 := ⟨⟨xt 480 (by decide +kernel) rfl, wi_8, ⟨by decide, by decide, by decide +kernel⟩, rfl, rfl⟩, xt 479 (by decide +kernel) rfl⟩
theorem cf_X8_tokenOf : xcfS M_X8_tokenOf 1 := ⟨⟨xt 511 (by decide +kernel) rfl, wi_8, ⟨by decide, by decide, by decide +kernel⟩, rfl, rfl⟩, xt 510 (by decide +kernel) rfl⟩
theorem cf_X8_forgetAnswers : xcfV M_X8_forgetAnswers 0 := ⟨⟨xt 400 (by decide +kernel) rfl, wi_8, ⟨by decide, by decide, by decide +kernel⟩, rfl, rfl⟩, xt 399 (by decide +kernel) rfl, xp (by decide +kernel) rfl⟩
theorem cf_X8_hasLostWayBack : xcfV M_X8_hasLostWayBack 1 := ⟨⟨xt 453 (by decide +kernel) rfl, wi_8, ⟨by decide, by decide, by decide +kernel⟩, rfl, rfl⟩, xt 452 (by decide +kernel) rfl, xp (by decide +kernel) rfl⟩
theorem cf_X8_hasBackStates : xcfV M_X8_hasBackStates 1 := ⟨⟨xt 523 (by decide +kernel) rfl, wi_8, ⟨by decide, by decide, by decide +kernel⟩, rfl, rfl⟩, xt 522 (by decide +kernel) rfl, xp (by decide +kernel) rfl⟩
theorem cf_X8_refusalOfGiven : xcfV M_X8_refusalOfGiven 0 := ⟨⟨xt 477 (by decide +kernel) rfl, wi_8, ⟨by decide, by decide, by decide +kernel⟩, rfl, rfl⟩, xt 476 (by decide +kernel) rfl, xp (by decide +kernel) rfl⟩
theorem cf_X8_bring : xcfV M_X8_bring 2 := ⟨⟨xt 496 (by decide +kernel) rfl, wi_8, ⟨by decide, by decide, by decide +kernel⟩, rfl, rfl⟩, xt 495 (by decide +kernel) rfl, xp (by decide +kernel) rfl⟩
theorem cf_X8_join : xcfV M_X8_join 3 := ⟨⟨xt 488 (by decide +kernel) rfl, wi_8, ⟨by decide, by decide, by decide +kernel⟩, rfl, rfl⟩, xt 487 (by decide +kernel) rfl, xp (by decide +kernel) rfl⟩
theorem cf_X8_walkDown : xcfV M_X8_walkDown 3 := ⟨⟨xt 539 (by decide +kernel) rfl, wi_8, ⟨by decide, by decide, by decide +kernel⟩, rfl, rfl⟩, xt 538 (by decide +kernel) rfl, xp (by decide +kernel) rfl⟩
theorem cf_X8_gather : xcfV M_X8_gather 2 := ⟨⟨xt 557 (by decide +kernel) rfl, wi_8, ⟨by decide, by decide, by decide +kernel⟩, rfl, rfl⟩, xt 556 (by decide +kernel) rfl, xp (by decide +kernel) rfl⟩
theorem cf_X8_levelOf : xcfV M_X8_levelOf 1 := ⟨⟨xt 705 (by decide +kernel) rfl, wi_8, ⟨by decide, by decide, by decide +kernel⟩, rfl, rfl⟩, xt 704 (by decide +kernel) rfl, xp (by decide +kernel) rfl⟩
theorem cf_X8_walkFrom : xcfV M_X8_walkFrom 2 := ⟨⟨xt 709 (by decide +kernel) rfl, wi_8, ⟨by decide, by decide, by decide +kernel⟩, rfl, rfl⟩, xt 708 (by decide +kernel) rfl, xp (by decide +kernel) rfl⟩
theorem cf_X9_in : xcfS M_X9_in 3 := ⟨⟨xt 985 (by decide +kernel) rfl, wi_9, ⟨by decide, by decide, by decide +kernel⟩, rfl, rfl⟩, xt 984 (by decide +kernel) rfl⟩
theorem cf_X9_isSheet : xcfS M_X9_isSheet 1 := ⟨⟨xt 981 (by decide +kernel) rfl, wi_9, ⟨by decide, by decide, by decide +kernel⟩, rfl, rfl⟩, xt 980 (by decide +kernel) rfl⟩
theorem cf_X9_isSpot : xcfS M_X9_isSpot 1 := ⟨⟨xt 1045 (by decide +kernel) rfl, wi_9, ⟨by decide, by decide, by decide +kernel⟩, rfl, rfl⟩, xt 1044 (by decide +kernel) rfl⟩
theorem cf_X9_sheet : xcfV M_X9_sheet 3 := ⟨⟨xt 978 (by decide +kernel) rfl, wi_9, ⟨by decide, by decide, by decide +kernel⟩, rfl, rfl⟩, xt 976 (by decide +kernel) rfl, xt 977 (by decide +kernel) rfl⟩
theorem cf_X9_cell : xcfV M_X9_cell 3 := ⟨⟨xt 990 (by decide +kernel) rfl, wi_9, ⟨by decide, by decide, by decide +kernel⟩, rfl, rfl⟩, xt 988 (by decide +kernel) rfl, xt 989 (by decide +kernel) rfl⟩
theorem cf_X9_told : xcfV M_X9_told 2 := ⟨⟨xt 994 (by decide +kernel) rfl, wi_9, ⟨by decide, by decide, by decide +kernel⟩, rfl, rfl⟩, xt 992 (by decide +kernel) rfl, xt 993 (by decide +kernel) rfl⟩
theorem cf_X9_lose : xcfV M_X9_lose 1 := ⟨⟨xt 999 (by decide +kernel) rfl, wi_9, ⟨by decide, by decide, by decide +kernel⟩, rfl, rfl⟩, xt 997 (by decide +kernel) rfl, xt 998 (by decide +kernel) rfl⟩
theorem cf_X9_letters : xcfV M_X9_letters 1 := ⟨⟨xt 1003 (by decide +kernel) rfl, wi_9, ⟨by decide, by decide, by decide +kernel⟩, rfl, rfl⟩, xt 1001 (by decide +kernel) rfl, xt 1002 (by decide +kernel) rfl⟩
theorem cf_X9_state : xcfV M_X9_state 2 := ⟨⟨xt 1008 (by decide +kernel) rfl, wi_9, ⟨by decide, by decide, by decide +kernel⟩, rfl, rfl⟩, xt 1006 (by decide +kernel) rfl, xt 1007 (by decide +kernel) rfl⟩
theorem cf_X9_isFair : xcfV M_X9_isFair 1 := ⟨⟨xt 1022 (by decide +kernel) rfl, wi_9, ⟨by decide, by decide, by decide +kernel⟩, rfl, rfl⟩, xt 1021 (by decide +kernel) rfl, xp (by decide +kernel) rfl⟩
theorem cf_X9_isBack : xcfV M_X9_isBack 1 := ⟨⟨xt 1018 (by decide +kernel) rfl, wi_9, ⟨by decide, by decide, by decide +kernel⟩, rfl, rfl⟩, xt 1017 (by decide +kernel) rfl, xp (by decide +kernel) rfl⟩
theorem cf_X9_change : xcfV M_X9_change 4 := ⟨⟨xt 1014 (by decide +kernel) rfl, wi_9, ⟨by decide, by decide, by decide +kernel⟩, rfl, rfl⟩, xt 1012 (by decide +kernel) rfl, xt 1013 (by decide +kernel) rfl⟩
theorem cf_X9_of : xcfV M_X9_of 3 := ⟨⟨xt 1026 (by decide +kernel) rfl, wi_9, ⟨by decide, by decide, by decide +kernel⟩, rfl, rfl⟩, xt 1024 (by decide +kernel) rfl, xt 1025 (by decide +kernel) rfl⟩
theorem cf_X9_isWhole : xcfV M_X9_isWhole 0 := ⟨⟨xt 1038 (by decide +kernel) rfl, wi_9, ⟨by decide, by decide, by decide +kernel⟩, rfl, rfl⟩, xt 1037 (by decide +kernel) rfl, xp (by decide +kernel) rfl⟩
theorem cf_X9_findTokens : xcfV M_X9_findTokens 0 := ⟨⟨xt 1034 (by decide +kernel) rfl, wi_9, ⟨by decide, by decide, by decide +kernel⟩, rfl, rfl⟩, xt 1033 (by decide +kernel) rfl, xp (by decide +kernel) rfl⟩
theorem cf_X9_many : xcfV M_X9_many 1 := ⟨⟨xt 1030 (by decide +kernel) rfl, wi_9, ⟨by decide, by decide, by decide +kernel⟩, rfl, rfl⟩, xt 1028 (by decide +kernel) rfl, xt 1029 (by decide +kernel) rfl⟩
theorem cf_X9_add : xcfV M_X9_add 2 := ⟨⟨xt 1053 (by decide +kernel) rfl, wi_9, ⟨by decide, by decide, by decide +kernel⟩, rfl, rfl⟩, xt 1052 (by decide +kernel) rfl, xp (by decide +kernel) rfl⟩
theorem cf_X9_copy : xcfV M_X9_copy 2 := ⟨⟨xt 1049 (by decide +kernel) rfl, wi_9, ⟨by decide, by decide, by decide +kernel⟩, rfl, rfl⟩, xt 1048 (by decide +kernel) rfl, xp (by decide +kernel) rfl⟩
theorem cf_X9_put : xcfV M_X9_put 5 := ⟨⟨xt 1042 (by decide +kernel) rfl, wi_9, ⟨by decide, by decide, by decide +kernel⟩, rfl, rfl⟩, xt 1040 (by decide +kernel) rfl, xt 1041 (by decide +kernel) rfl⟩
theorem cf_X9_wipe : xcfV M_X9_wipe 1 := ⟨⟨xt 1057 (by decide +kernel) rfl, wi_9, ⟨by decide, by decide, by decide +kernel⟩, rfl, rfl⟩, xt 1055 (by decide +kernel) rfl, xt 1056 (by decide +kernel) rfl⟩
theorem cf_X9_size : xcfV M_X9_size 1 := ⟨⟨xt 1061 (by decide +kernel) rfl, wi_9, ⟨by decide, by decide, by decide +kernel⟩, rfl, rfl⟩, xt 1059 (by decide +kernel) rfl, xt 1060 (by decide +kernel) rfl⟩
theorem cf_X9_token : xcfV M_X9_token 2 := ⟨⟨xt 1065 (by decide +kernel) rfl, wi_9, ⟨by decide, by decide, by decide +kernel⟩, rfl, rfl⟩, xt 1063 (by decide +kernel) rfl, xt 1064 (by decide +kernel) rfl⟩
theorem cf_X9_times : xcfV M_X9_times 3 := ⟨⟨xt 1069 (by decide +kernel) rfl, wi_9, ⟨by decide, by decide, by decide +kernel⟩, rfl, rfl⟩, xt 1067 (by decide +kernel) rfl, xt 1068 (by decide +kernel) rfl⟩
theorem cf_X9_turn : xcfV M_X9_turn 2 := ⟨⟨xt 1073 (by decide +kernel) rfl, wi_9, ⟨by decide, by decide, by decide +kernel⟩, rfl, rfl⟩, xt 1071 (by decide +kernel) rfl, xt 1072 (by decide +kernel) rfl⟩
theorem cf_X9_step : xcfV M_X9_step 2 := ⟨⟨xt 1089 (by decide +kernel) rfl, wi_9, ⟨by decide, by decide, by decide +kernel⟩, rfl, rfl⟩, xt 1088 (by decide +kernel) rfl, xp (by decide +kernel) rfl⟩
theorem cf_X9_partAt : xcfV M_X9_partAt 3 := ⟨⟨xt 1105 (by decide +kernel) rfl, wi_9, ⟨by decide, by decide, by decide +kernel⟩, rfl, rfl⟩, xt 1104 (by decide +kernel) rfl, xp (by decide +kernel) rfl⟩
theorem cf_X9_takeRow : xcfV M_X9_takeRow 2 := ⟨⟨xt 1081 (by decide +kernel) rfl, wi_9, ⟨by decide, by decide, by decide +kernel⟩, rfl, rfl⟩, xt 1080 (by decide +kernel) rfl, xp (by decide +kernel) rfl⟩
theorem cf_X9_rowNumber : xcfV M_X9_rowNumber 0 := ⟨⟨xt 1093 (by decide +kernel) rfl, wi_9, ⟨by decide, by decide, by decide +kernel⟩, rfl, rfl⟩, xt 1092 (by decide +kernel) rfl, xp (by decide +kernel) rfl⟩
theorem cf_X9_rewrite : xcfV M_X9_rewrite 1 := ⟨⟨xt 1085 (by decide +kernel) rfl, wi_9, ⟨by decide, by decide, by decide +kernel⟩, rfl, rfl⟩, xt 1084 (by decide +kernel) rfl, xp (by decide +kernel) rfl⟩
theorem cf_X9_act : xcfV M_X9_act 2 := ⟨⟨xt 1077 (by decide +kernel) rfl, wi_9, ⟨by decide, by decide, by decide +kernel⟩, rfl, rfl⟩, xt 1075 (by decide +kernel) rfl, xt 1076 (by decide +kernel) rfl⟩
theorem cf_X9_partAtRow : xcfV M_X9_partAtRow 2 := ⟨⟨xt 1101 (by decide +kernel) rfl, wi_9, ⟨by decide, by decide, by decide +kernel⟩, rfl, rfl⟩, xt 1100 (by decide +kernel) rfl, xp (by decide +kernel) rfl⟩
theorem cf_X9_part : xcfV M_X9_part 3 := ⟨⟨xt 1097 (by decide +kernel) rfl, wi_9, ⟨by decide, by decide, by decide +kernel⟩, rfl, rfl⟩, xt 1095 (by decide +kernel) rfl, xt 1096 (by decide +kernel) rfl⟩
theorem cf_X9_findInHeap : xcfV M_X9_findInHeap 1 := ⟨⟨xt 1125 (by decide +kernel) rfl, wi_9, ⟨by decide, by decide, by decide +kernel⟩, rfl, rfl⟩, xt 1124 (by decide +kernel) rfl, xp (by decide +kernel) rfl⟩
theorem cf_X9_toHeap : xcfV M_X9_toHeap 1 := ⟨⟨xt 1121 (by decide +kernel) rfl, wi_9, ⟨by decide, by decide, by decide +kernel⟩, rfl, rfl⟩, xt 1120 (by decide +kernel) rfl, xp (by decide +kernel) rfl⟩
theorem cf_X9_fromHeap : xcfV M_X9_fromHeap 2 := ⟨⟨xt 1133 (by decide +kernel) rfl, wi_9, ⟨by decide, by decide, by decide +kernel⟩, rfl, rfl⟩, xt 1132 (by decide +kernel) rfl, xp (by decide +kernel) rfl⟩
theorem cf_X9_grow : xcfV M_X9_grow 0 := ⟨⟨xt 1129 (by decide +kernel) rfl, wi_9, ⟨by decide, by decide, by decide +kernel⟩, rfl, rfl⟩, xt 1128 (by decide +kernel) rfl, xp (by decide +kernel) rfl⟩
theorem cf_X9_beginHeap : xcfV M_X9_beginHeap 0 := ⟨⟨xt 1117 (by decide +kernel) rfl, wi_9, ⟨by decide, by decide, by decide +kernel⟩, rfl, rfl⟩, xt 1116 (by decide +kernel) rfl, xp (by decide +kernel) rfl⟩
theorem cf_X9_isSameNow : xcfV M_X9_isSameNow 2 := ⟨⟨xt 1145 (by decide +kernel) rfl, wi_9, ⟨by decide, by decide, by decide +kernel⟩, rfl, rfl⟩, xt 1144 (by decide +kernel) rfl, xp (by decide +kernel) rfl⟩
theorem cf_X9_partOnce : xcfV M_X9_partOnce 0 := ⟨⟨xt 1141 (by decide +kernel) rfl, wi_9, ⟨by decide, by decide, by decide +kernel⟩, rfl, rfl⟩, xt 1140 (by decide +kernel) rfl, xp (by decide +kernel) rfl⟩
theorem cf_X9_partAll : xcfV M_X9_partAll 0 := ⟨⟨xt 1137 (by decide +kernel) rfl, wi_9, ⟨by decide, by decide, by decide +kernel⟩, rfl, rfl⟩, xt 1136 (by decide +kernel) rfl, xp (by decide +kernel) rfl⟩
theorem cf_X9_takeTwo : xcfV M_X9_takeTwo 2 := ⟨⟨xt 1113 (by decide +kernel) rfl, wi_9, ⟨by decide, by decide, by decide +kernel⟩, rfl, rfl⟩, xt 1112 (by decide +kernel) rfl, xp (by decide +kernel) rfl⟩
theorem cf_X9_same : xcfV M_X9_same 2 := ⟨⟨xt 1109 (by decide +kernel) rfl, wi_9, ⟨by decide, by decide, by decide +kernel⟩, rfl, rfl⟩, xt 1107 (by decide +kernel) rfl, xt 1108 (by decide +kernel) rfl⟩
theorem cf_X9_apart : xcfV M_X9_apart 2 := ⟨⟨xt 1149 (by decide +kernel) rfl, wi_9, ⟨by decide, by decide, by decide +kernel⟩, rfl, rfl⟩, xt 1147 (by decide +kernel) rfl, xt 1148 (by decide +kernel) rfl⟩
theorem cf_X9_isParted : xcfV M_X9_isParted 4 := ⟨⟨xt 1153 (by decide +kernel) rfl, wi_9, ⟨by decide, by decide, by decide +kernel⟩, rfl, rfl⟩, xt 1152 (by decide +kernel) rfl, xp (by decide +kernel) rfl⟩
theorem cf_X9_heap : xcfV M_X9_heap 1 := ⟨⟨xt 1157 (by decide +kernel) rfl, wi_9, ⟨by decide, by decide, by decide +kernel⟩, rfl, rfl⟩, xt 1155 (by decide +kernel) rfl, xt 1156 (by decide +kernel) rfl⟩
theorem cf_X9_least : xcfV M_X9_least 1 := ⟨⟨xt 1161 (by decide +kernel) rfl, wi_9, ⟨by decide, by decide, by decide +kernel⟩, rfl, rfl⟩, xt 1159 (by decide +kernel) rfl, xt 1160 (by decide +kernel) rfl⟩
theorem cf_X9_rowsOf : xcfV M_X9_rowsOf 2 := ⟨⟨xt 1169 (by decide +kernel) rfl, wi_9, ⟨by decide, by decide, by decide +kernel⟩, rfl, rfl⟩, xt 1168 (by decide +kernel) rfl, xp (by decide +kernel) rfl⟩
theorem cf_X9_rowAt : xcfV M_X9_rowAt 2 := ⟨⟨xt 1177 (by decide +kernel) rfl, wi_9, ⟨by decide, by decide, by decide +kernel⟩, rfl, rfl⟩, xt 1176 (by decide +kernel) rfl, xp (by decide +kernel) rfl⟩
theorem cf_X9_placeNow : xcfV M_X9_placeNow 0 := ⟨⟨xt 1181 (by decide +kernel) rfl, wi_9, ⟨by decide, by decide, by decide +kernel⟩, rfl, rfl⟩, xt 1180 (by decide +kernel) rfl, xp (by decide +kernel) rfl⟩
theorem cf_X9_findLevel : xcfV M_X9_findLevel 1 := ⟨⟨xt 1193 (by decide +kernel) rfl, wi_9, ⟨by decide, by decide, by decide +kernel⟩, rfl, rfl⟩, xt 1192 (by decide +kernel) rfl, xp (by decide +kernel) rfl⟩
theorem cf_X9_isTokenBack : xcfV M_X9_isTokenBack 1 := ⟨⟨xt 1173 (by decide +kernel) rfl, wi_9, ⟨by decide, by decide, by decide +kernel⟩, rfl, rfl⟩, xt 1172 (by decide +kernel) rfl, xp (by decide +kernel) rfl⟩
theorem cf_X9_common : xcfS M_X9_common 2 := ⟨⟨xt 1184 (by decide +kernel) rfl, wi_9, ⟨by decide, by decide, by decide +kernel⟩, rfl, rfl⟩, xt 1183 (by decide +kernel) rfl⟩
theorem cf_X9_order : xcfV M_X9_order 2 := ⟨⟨xt 1165 (by decide +kernel) rfl, wi_9, ⟨by decide, by decide, by decide +kernel⟩, rfl, rfl⟩, xt 1163 (by decide +kernel) rfl, xt 1164 (by decide +kernel) rfl⟩
theorem cf_X9_orbits : xcfV M_X9_orbits 1 := ⟨⟨xt 1189 (by decide +kernel) rfl, wi_9, ⟨by decide, by decide, by decide +kernel⟩, rfl, rfl⟩, xt 1187 (by decide +kernel) rfl, xt 1188 (by decide +kernel) rfl⟩
theorem cf_X9_takeLevel : xcfV M_X9_takeLevel 1 := ⟨⟨xt 1202 (by decide +kernel) rfl, wi_9, ⟨by decide, by decide, by decide +kernel⟩, rfl, rfl⟩, xt 1201 (by decide +kernel) rfl, xp (by decide +kernel) rfl⟩
theorem cf_X9_findFar : xcfV M_X9_findFar 1 := ⟨⟨xt 1206 (by decide +kernel) rfl, wi_9, ⟨by decide, by decide, by decide +kernel⟩, rfl, rfl⟩, xt 1205 (by decide +kernel) rfl, xp (by decide +kernel) rfl⟩
theorem cf_X9_orbit : xcfV M_X9_orbit 1 := ⟨⟨xt 1198 (by decide +kernel) rfl, wi_9, ⟨by decide, by decide, by decide +kernel⟩, rfl, rfl⟩, xt 1196 (by decide +kernel) rfl, xt 1197 (by decide +kernel) rfl⟩
theorem cf_X9_takeRows : xcfV M_X9_takeRows 2 := ⟨⟨xt 1214 (by decide +kernel) rfl, wi_9, ⟨by decide, by decide, by decide +kernel⟩, rfl, rfl⟩, xt 1213 (by decide +kernel) rfl, xp (by decide +kernel) rfl⟩
theorem cf_X9_far : xcfV M_X9_far 2 := ⟨⟨xt 1210 (by decide +kernel) rfl, wi_9, ⟨by decide, by decide, by decide +kernel⟩, rfl, rfl⟩, xt 1208 (by decide +kernel) rfl, xt 1209 (by decide +kernel) rfl⟩
theorem cf_X9_findFarTo : xcfV M_X9_findFarTo 1 := ⟨⟨xt 1223 (by decide +kernel) rfl, wi_9, ⟨by decide, by decide, by decide +kernel⟩, rfl, rfl⟩, xt 1222 (by decide +kernel) rfl, xp (by decide +kernel) rfl⟩
theorem cf_X9_way : xcfV M_X9_way 3 := ⟨⟨xt 1218 (by decide +kernel) rfl, wi_9, ⟨by decide, by decide, by decide +kernel⟩, rfl, rfl⟩, xt 1216 (by decide +kernel) rfl, xt 1217 (by decide +kernel) rfl⟩
theorem cf_X9_reach : xcfV M_X9_reach 1 := ⟨⟨xt 1227 (by decide +kernel) rfl, wi_9, ⟨by decide, by decide, by decide +kernel⟩, rfl, rfl⟩, xt 1225 (by decide +kernel) rfl, xt 1226 (by decide +kernel) rfl⟩
theorem cf_X9_toGroup : xcfV M_X9_toGroup 1 := ⟨⟨xt 1236 (by decide +kernel) rfl, wi_9, ⟨by decide, by decide, by decide +kernel⟩, rfl, rfl⟩, xt 1235 (by decide +kernel) rfl, xp (by decide +kernel) rfl⟩
theorem cf_X9_made : xcfV M_X9_made 2 := ⟨⟨xt 1241 (by decide +kernel) rfl, wi_9, ⟨by decide, by decide, by decide +kernel⟩, rfl, rfl⟩, xt 1240 (by decide +kernel) rfl, xp (by decide +kernel) rfl⟩
theorem cf_X9_group : xcfV M_X9_group 1 := ⟨⟨xt 1232 (by decide +kernel) rfl, wi_9, ⟨by decide, by decide, by decide +kernel⟩, rfl, rfl⟩, xt 1230 (by decide +kernel) rfl, xt 1231 (by decide +kernel) rfl⟩
theorem cf_X9_takeShort : xcfV M_X9_takeShort 1 := ⟨⟨xt 1250 (by decide +kernel) rfl, wi_9, ⟨by decide, by decide, by decide +kernel⟩, rfl, rfl⟩, xt 1249 (by decide +kernel) rfl, xp (by decide +kernel) rfl⟩
theorem cf_X9_growth : xcfV M_X9_growth 1 := ⟨⟨xt 1246 (by decide +kernel) rfl, wi_9, ⟨by decide, by decide, by decide +kernel⟩, rfl, rfl⟩, xt 1244 (by decide +kernel) rfl, xt 1245 (by decide +kernel) rfl⟩
theorem cf_X9_findLaw : xcfV M_X9_findLaw 1 := ⟨⟨xt 1259 (by decide +kernel) rfl, wi_9, ⟨by decide, by decide, by decide +kernel⟩, rfl, rfl⟩, xt 1258 (by decide +kernel) rfl, xp (by decide +kernel) rfl⟩
theorem cf_X9_laws : xcfV M_X9_laws 1 := ⟨⟨xt 1255 (by decide +kernel) rfl, wi_9, ⟨by decide, by decide, by decide +kernel⟩, rfl, rfl⟩, xt 1253 (by decide +kernel) rfl, xt 1254 (by decide +kernel) rfl⟩
theorem cf_X9_law : xcfV M_X9_law 3 := ⟨⟨xt 1263 (by decide +kernel) rfl, wi_9, ⟨by decide, by decide, by decide +kernel⟩, rfl, rfl⟩, xt 1261 (by decide +kernel) rfl, xt 1262 (by decide +kernel) rfl⟩
theorem cf_X9_falls : xcfV M_X9_falls 1 := ⟨⟨xt 1279 (by decide +kernel) rfl, wi_9, ⟨by decide, by decide, by decide +kernel⟩, rfl, rfl⟩, xt 1278 (by decide +kernel) rfl, xp (by decide +kernel) rfl⟩
theorem cf_X9_beginFall : xcfV M_X9_beginFall 0 := ⟨⟨xt 1271 (by decide +kernel) rfl, wi_9, ⟨by decide, by decide, by decide +kernel⟩, rfl, rfl⟩, xt 1270 (by decide +kernel) rfl, xp (by decide +kernel) rfl⟩
theorem cf_X9_fallsAll : xcfV M_X9_fallsAll 1 := ⟨⟨xt 1275 (by decide +kernel) rfl, wi_9, ⟨by decide, by decide, by decide +kernel⟩, rfl, rfl⟩, xt 1274 (by decide +kernel) rfl, xp (by decide +kernel) rfl⟩
theorem cf_X9_fall : xcfV M_X9_fall 1 := ⟨⟨xt 1267 (by decide +kernel) rfl, wi_9, ⟨by decide, by decide, by decide +kernel⟩, rfl, rfl⟩, xt 1265 (by decide +kernel) rfl, xt 1266 (by decide +kernel) rfl⟩
theorem cf_X9_fallen : xcfV M_X9_fallen 3 := ⟨⟨xt 1283 (by decide +kernel) rfl, wi_9, ⟨by decide, by decide, by decide +kernel⟩, rfl, rfl⟩, xt 1281 (by decide +kernel) rfl, xt 1282 (by decide +kernel) rfl⟩
theorem cf_J9_max_7cf53 : xcfS M_J9_max_7cf53 2 := ⟨⟨xt 677 (by decide +kernel) rfl, wi_J9, ⟨by decide, by decide, by decide +kernel⟩, rfl, rfl⟩, xt 676 (by decide +kernel) rfl⟩
theorem cf_J9_max_f86c9 : xcfS M_J9_max_f86c9 2 := ⟨⟨xt 683 (by decide +kernel) rfl, wi_J9, ⟨by decide, by decide, by decide +kernel⟩, rfl, rfl⟩, xt 682 (by decide +kernel) rfl⟩
theorem cf_J9_min_7cf53 : xcfS M_J9_min_7cf53 2 := ⟨⟨xt 824 (by decide +kernel) rfl, wi_J9, ⟨by decide, by decide, by decide +kernel⟩, rfl, rfl⟩, xt 823 (by decide +kernel) rfl⟩
theorem cf_J7_fill_53178 : xcfS M_J7_fill_53178 2 := ⟨⟨xt 343 (by decide +kernel) rfl, wi_J7, ⟨by decide, by decide, by decide +kernel⟩, rfl, rfl⟩, xt 342 (by decide +kernel) rfl⟩
theorem ml_8_66 : Cond.methodLink RX8 66 yX8_isSheet ∈ xw := xt 334 (by decide +kernel) rfl
theorem ml_8_70 : Cond.methodLink RX8 70 yX5_lay ∈ xw := xt 337 (by decide +kernel) rfl
theorem ml_5_15 : Cond.methodLink RX5 15 yJ7_fill_53178 ∈ xw := xt 341 (by decide +kernel) rfl
theorem ml_8_78 : Cond.methodLink RX8 78 yX5_hasNumber ∈ xw := xt 348 (by decide +kernel) rfl
theorem ml_8_81 : Cond.methodLink RX8 81 yX5_write ∈ xw := xt 352 (by decide +kernel) rfl
theorem ml_8_88 : Cond.methodLink RX8 88 yX3_restart ∈ xw := xt 369 (by decide +kernel) rfl
theorem ml_3_44 : Cond.methodLink RX3 44 yX3_refresh ∈ xw := xt 373 (by decide +kernel) rfl
theorem ml_3_63 : Cond.methodLink RX3 63 yX3_goals ∈ xw := xt 377 (by decide +kernel) rfl
theorem ml_3_67 : Cond.methodLink RX3 67 yX3_writesUnlike ∈ xw := xt 381 (by decide +kernel) rfl
theorem ml_3_70 : Cond.methodLink RX3 70 yX3_listMarks ∈ xw := xt 385 (by decide +kernel) rfl
theorem ml_3_73 : Cond.methodLink RX3 73 yX3_isBack ∈ xw := xt 389 (by decide +kernel) rfl
theorem ml_3_76 : Cond.methodLink RX3 76 yX3_wireMarks ∈ xw := xt 393 (by decide +kernel) rfl
theorem ml_8_92 : Cond.methodLink RX8 92 yX8_forgetAnswers ∈ xw := xt 397 (by decide +kernel) rfl
theorem ml_8_293 : Cond.methodLink RX8 293 yX2_forget ∈ xw := xt 401 (by decide +kernel) rfl
theorem ml_8_296 : Cond.methodLink RX8 296 yX6_forget ∈ xw := xt 405 (by decide +kernel) rfl
theorem ml_8_95 : Cond.methodLink RX8 95 yX7_empty ∈ xw := xt 409 (by decide +kernel) rfl
theorem ml_8_98 : Cond.methodLink RX8 98 yX3_canRead ∈ xw := xt 417 (by decide +kernel) rfl
theorem ml_3_47 : Cond.methodLink RX3 47 yX5_hasPair ∈ xw := xt 421 (by decide +kernel) rfl
theorem ml_3_56 : Cond.methodLink RX3 56 yX3_isLetter ∈ xw := xt 425 (by decide +kernel) rfl
theorem ml_8_106 : Cond.methodLink RX8 106 yX3_read ∈ xw := xt 432 (by decide +kernel) rfl
theorem ml_8_110 : Cond.methodLink RX8 110 yX3_isState ∈ xw := xt 440 (by decide +kernel) rfl
theorem ml_8_113 : Cond.methodLink RX8 113 yX3_isLetter ∈ xw := xt 444 (by decide +kernel) rfl
theorem ml_8_116 : Cond.methodLink RX8 116 yX8_isGoal ∈ xw := xt 445 (by decide +kernel) rfl
theorem ml_8_119 : Cond.methodLink RX8 119 yX3_rewire ∈ xw := xt 446 (by decide +kernel) rfl
theorem ml_8_123 : Cond.methodLink RX8 123 yX8_hasLostWayBack ∈ xw := xt 450 (by decide +kernel) rfl
theorem ml_8_166 : Cond.methodLink RX8 166 yX7_mark ∈ xw := xt 454 (by decide +kernel) rfl
theorem ml_8_127 : Cond.methodLink RX8 127 yX3_isBack ∈ xw := xt 458 (by decide +kernel) rfl
theorem ml_8_145 : Cond.methodLink RX8 145 yX8_isSpot ∈ xw := xt 471 (by decide +kernel) rfl
theorem ml_8_148 : Cond.methodLink RX8 148 yX8_refusalOfGiven ∈ xw := xt 474 (by decide +kernel) rfl
theorem ml_8_152 : Cond.methodLink RX8 152 yX8_markOf ∈ xw := xt 478 (by decide +kernel) rfl
theorem ml_8_156 : Cond.methodLink RX8 156 yX7_push ∈ xw := xt 481 (by decide +kernel) rfl
theorem ml_8_159 : Cond.methodLink RX8 159 yX8_join ∈ xw := xt 485 (by decide +kernel) rfl
theorem ml_8_182 : Cond.methodLink RX8 182 yX7_copy ∈ xw := xt 489 (by decide +kernel) rfl
theorem ml_8_175 : Cond.methodLink RX8 175 yX8_bring ∈ xw := xt 493 (by decide +kernel) rfl
theorem ml_8_169 : Cond.methodLink RX8 169 yX8_tokenOf ∈ xw := xt 509 (by decide +kernel) rfl
theorem ml_8_172 : Cond.methodLink RX8 172 yX8_hasBackStates ∈ xw := xt 520 (by decide +kernel) rfl
theorem ml_8_179 : Cond.methodLink RX8 179 yX3_rowLength ∈ xw := xt 528 (by decide +kernel) rfl
theorem ml_3_80 : Cond.methodLink RX3 80 yX3_hasLetters ∈ xw := xt 532 (by decide +kernel) rfl
theorem ml_8_186 : Cond.methodLink RX8 186 yX8_walkDown ∈ xw := xt 536 (by decide +kernel) rfl
theorem ml_8_301 : Cond.methodLink RX8 301 yX7_descend ∈ xw := xt 540 (by decide +kernel) rfl
theorem ml_7_19 : Cond.methodLink RX7 19 yX7_empty ∈ xw := xt 544 (by decide +kernel) rfl
theorem ml_7_31 : Cond.methodLink RX7 31 yX7_push ∈ xw := xt 545 (by decide +kernel) rfl
theorem ml_8_190 : Cond.methodLink RX8 190 yX8_gather ∈ xw := xt 554 (by decide +kernel) rfl
theorem ml_8_304 : Cond.methodLink RX8 304 yX4_reset ∈ xw := xt 558 (by decide +kernel) rfl
theorem ml_4_62 : Cond.methodLink RX4 62 yX0_clear ∈ xw := xt 562 (by decide +kernel) rfl
theorem ml_0_28 : Cond.methodLink RX0 28 yJ7_fill_53178 ∈ xw := xt 567 (by decide +kernel) rfl
theorem ml_8_307 : Cond.methodLink RX8 307 yX4_take ∈ xw := xt 568 (by decide +kernel) rfl
theorem ml_4_83 : Cond.methodLink RX4 83 yX0_add ∈ xw := xt 572 (by decide +kernel) rfl
theorem ml_0_34 : Cond.methodLink RX0 34 yX0_slotOf ∈ xw := xt 576 (by decide +kernel) rfl
theorem ml_4_86 : Cond.methodLink RX4 86 yX4_followParts ∈ xw := xt 581 (by decide +kernel) rfl
theorem ml_4_96 : Cond.methodLink RX4 96 yX4_load ∈ xw := xt 585 (by decide +kernel) rfl
theorem ml_4_100 : Cond.methodLink RX4 100 yX7_descend ∈ xw := xt 589 (by decide +kernel) rfl
theorem ml_8_194 : Cond.methodLink RX8 194 yX4_classify ∈ xw := xt 590 (by decide +kernel) rfl
theorem ml_4_104 : Cond.methodLink RX4 104 yX4_keepRound ∈ xw := xt 594 (by decide +kernel) rfl
theorem ml_4_107 : Cond.methodLink RX4 107 yX4_refine ∈ xw := xt 601 (by decide +kernel) rfl
theorem ml_8_197 : Cond.methodLink RX8 197 yX4_indexOf ∈ xw := xt 605 (by decide +kernel) rfl
theorem ml_4_72 : Cond.methodLink RX4 72 yX0_find ∈ xw := xt 609 (by decide +kernel) rfl
theorem ml_8_201 : Cond.methodLink RX8 201 yX4_areAlike ∈ xw := xt 613 (by decide +kernel) rfl
theorem ml_8_205 : Cond.methodLink RX8 205 yX4_partingRow ∈ xw := xt 621 (by decide +kernel) rfl
theorem ml_4_116 : Cond.methodLink RX4 116 yX4_arePartedBy ∈ xw := xt 625 (by decide +kernel) rfl
theorem ml_4_120 : Cond.methodLink RX4 120 yX4_firstPartingLetter ∈ xw := xt 629 (by decide +kernel) rfl
theorem ml_4_124 : Cond.methodLink RX4 124 yX4_firstUnlikeLetter ∈ xw := xt 633 (by decide +kernel) rfl
theorem ml_8_220 : Cond.methodLink RX8 220 yX3_power ∈ xw := xt 649 (by decide +kernel) rfl
theorem ml_8_223 : Cond.methodLink RX8 223 yX2_build ∈ xw := xt 653 (by decide +kernel) rfl
theorem ml_2_54 : Cond.methodLink RX2 54 yX2_buildBranch ∈ xw := xt 657 (by decide +kernel) rfl
theorem ml_8_227 : Cond.methodLink RX8 227 yX2_roundsToRest ∈ xw := xt 661 (by decide +kernel) rfl
theorem ml_2_68 : Cond.methodLink RX2 68 yX2_forgetRows ∈ xw := xt 665 (by decide +kernel) rfl
theorem ml_2_37 : Cond.methodLink RX2 37 yJ7_fill_53178 ∈ xw := xt 669 (by decide +kernel) rfl
theorem ml_2_75 : Cond.methodLink RX2 75 yX2_ringLength ∈ xw := xt 670 (by decide +kernel) rfl
theorem ml_2_90 : Cond.methodLink RX2 90 yX7_mark ∈ xw := xt 674 (by decide +kernel) rfl
theorem ml_2_94 : Cond.methodLink RX2 94 yJ9_max_7cf53 ∈ xw := xt 675 (by decide +kernel) rfl
theorem ml_2_79 : Cond.methodLink RX2 79 yX2_commonDivisor ∈ xw := xt 678 (by decide +kernel) rfl
theorem ml_2_100 : Cond.methodLink RX2 100 yJ9_max_f86c9 ∈ xw := xt 681 (by decide +kernel) rfl
theorem ml_8_230 : Cond.methodLink RX8 230 yX2_countBackOrbits ∈ xw := xt 689 (by decide +kernel) rfl
theorem ml_2_71 : Cond.methodLink RX2 71 yX2_spread ∈ xw := xt 693 (by decide +kernel) rfl
theorem ml_2_64 : Cond.methodLink RX2 64 yX3_isBack ∈ xw := xt 697 (by decide +kernel) rfl
theorem ml_8_234 : Cond.methodLink RX8 234 yX8_levelOf ∈ xw := xt 702 (by decide +kernel) rfl
theorem ml_8_237 : Cond.methodLink RX8 237 yX8_walkFrom ∈ xw := xt 706 (by decide +kernel) rfl
theorem ml_8_311 : Cond.methodLink RX8 311 yX2_forgetRows ∈ xw := xt 710 (by decide +kernel) rfl
theorem ml_8_243 : Cond.methodLink RX8 243 yX3_rowIndex ∈ xw := xt 711 (by decide +kernel) rfl
theorem ml_8_314 : Cond.methodLink RX8 314 yX2_spread ∈ xw := xt 715 (by decide +kernel) rfl
theorem ml_8_246 : Cond.methodLink RX8 246 yX8_far ∈ xw := xt 724 (by decide +kernel) rfl
theorem ml_8_249 : Cond.methodLink RX8 249 yX2_markOfMove ∈ xw := xt 725 (by decide +kernel) rfl
theorem ml_8_256 : Cond.methodLink RX8 256 yX1_begin ∈ xw := xt 737 (by decide +kernel) rfl
theorem ml_1_31 : Cond.methodLink RX1 31 yX0_clear ∈ xw := xt 741 (by decide +kernel) rfl
theorem ml_1_34 : Cond.methodLink RX1 34 yX0_add ∈ xw := xt 742 (by decide +kernel) rfl
theorem ml_8_259 : Cond.methodLink RX8 259 yX2_packed ∈ xw := xt 743 (by decide +kernel) rfl
theorem ml_8_263 : Cond.methodLink RX8 263 yX1_bringIn ∈ xw := xt 747 (by decide +kernel) rfl
theorem ml_1_38 : Cond.methodLink RX1 38 yX0_find ∈ xw := xt 751 (by decide +kernel) rfl
theorem ml_1_44 : Cond.methodLink RX1 44 yJ9_max_7cf53 ∈ xw := xt 752 (by decide +kernel) rfl
theorem ml_1_53 : Cond.methodLink RX1 53 yX1_behind ∈ xw := xt 753 (by decide +kernel) rfl
theorem ml_1_57 : Cond.methodLink RX1 57 yX1_addBlock ∈ xw := xt 758 (by decide +kernel) rfl
theorem ml_8_270 : Cond.methodLink RX8 270 yX6_gatherWithin ∈ xw := xt 766 (by decide +kernel) rfl
theorem ml_6_57 : Cond.methodLink RX6 57 yX6_enterWithin ∈ xw := xt 770 (by decide +kernel) rfl
theorem ml_6_68 : Cond.methodLink RX6 68 yX6_beginWithEmpty ∈ xw := xt 774 (by decide +kernel) rfl
theorem ml_6_83 : Cond.methodLink RX6 83 yX4_reset ∈ xw := xt 778 (by decide +kernel) rfl
theorem ml_6_86 : Cond.methodLink RX6 86 yX7_empty ∈ xw := xt 779 (by decide +kernel) rfl
theorem ml_6_89 : Cond.methodLink RX6 89 yX4_enter ∈ xw := xt 780 (by decide +kernel) rfl
theorem ml_6_80 : Cond.methodLink RX6 80 yX6_extend ∈ xw := xt 784 (by decide +kernel) rfl
theorem ml_6_96 : Cond.methodLink RX6 96 yX4_load ∈ xw := xt 788 (by decide +kernel) rfl
theorem ml_6_106 : Cond.methodLink RX6 106 yX7_push ∈ xw := xt 789 (by decide +kernel) rfl
theorem ml_6_61 : Cond.methodLink RX6 61 yX4_followParts ∈ xw := xt 790 (by decide +kernel) rfl
theorem ml_6_65 : Cond.methodLink RX6 65 yX4_classify ∈ xw := xt 791 (by decide +kernel) rfl
theorem ml_8_274 : Cond.methodLink RX8 274 yX6_countLaws ∈ xw := xt 796 (by decide +kernel) rfl
theorem ml_6_114 : Cond.methodLink RX6 114 yX6_isLaw ∈ xw := xt 800 (by decide +kernel) rfl
theorem ml_6_110 : Cond.methodLink RX6 110 yX4_areAlike ∈ xw := xt 804 (by decide +kernel) rfl
theorem ml_8_277 : Cond.methodLink RX8 277 yX6_findLaw ∈ xw := xt 809 (by decide +kernel) rfl
theorem ml_8_280 : Cond.methodLink RX8 280 yX4_load ∈ xw := xt 813 (by decide +kernel) rfl
theorem ml_8_284 : Cond.methodLink RX8 284 yX6_gatherFallen ∈ xw := xt 818 (by decide +kernel) rfl
theorem ml_6_117 : Cond.methodLink RX6 117 yJ9_min_7cf53 ∈ xw := xt 822 (by decide +kernel) rfl
theorem ml_6_123 : Cond.methodLink RX6 123 yX6_lookAtParts ∈ xw := xt 825 (by decide +kernel) rfl
theorem ml_6_134 : Cond.methodLink RX6 134 yX7_copy ∈ xw := xt 829 (by decide +kernel) rfl
theorem ml_6_138 : Cond.methodLink RX6 138 yX7_descend ∈ xw := xt 830 (by decide +kernel) rfl
theorem ml_6_142 : Cond.methodLink RX6 142 yX4_take ∈ xw := xt 831 (by decide +kernel) rfl
theorem ml_6_127 : Cond.methodLink RX6 127 yX6_addUnlike ∈ xw := xt 832 (by decide +kernel) rfl
theorem ml_6_146 : Cond.methodLink RX6 146 yJ7_fill_53178 ∈ xw := xt 836 (by decide +kernel) rfl
theorem ml_9_105 : Cond.methodLink RX9 105 yX9_isSheet ∈ xw := xt 979 (by decide +kernel) rfl
theorem ml_9_99 : Cond.methodLink RX9 99 yX9_in ∈ xw := xt 983 (by decide +kernel) rfl
theorem ml_9_124 : Cond.methodLink RX9 124 yX9_isBack ∈ xw := xt 1015 (by decide +kernel) rfl
theorem ml_9_121 : Cond.methodLink RX9 121 yX9_isFair ∈ xw := xt 1019 (by decide +kernel) rfl
theorem ml_9_130 : Cond.methodLink RX9 130 yX9_findTokens ∈ xw := xt 1031 (by decide +kernel) rfl
theorem ml_9_133 : Cond.methodLink RX9 133 yX9_isWhole ∈ xw := xt 1035 (by decide +kernel) rfl
theorem ml_9_137 : Cond.methodLink RX9 137 yX9_isSpot ∈ xw := xt 1043 (by decide +kernel) rfl
theorem ml_9_140 : Cond.methodLink RX9 140 yX9_copy ∈ xw := xt 1046 (by decide +kernel) rfl
theorem ml_9_144 : Cond.methodLink RX9 144 yX9_add ∈ xw := xt 1050 (by decide +kernel) rfl
theorem ml_9_159 : Cond.methodLink RX9 159 yX9_takeRow ∈ xw := xt 1078 (by decide +kernel) rfl
theorem ml_9_163 : Cond.methodLink RX9 163 yX9_rewrite ∈ xw := xt 1082 (by decide +kernel) rfl
theorem ml_9_153 : Cond.methodLink RX9 153 yX9_step ∈ xw := xt 1086 (by decide +kernel) rfl
theorem ml_9_167 : Cond.methodLink RX9 167 yX9_rowNumber ∈ xw := xt 1090 (by decide +kernel) rfl
theorem ml_9_175 : Cond.methodLink RX9 175 yX9_partAtRow ∈ xw := xt 1098 (by decide +kernel) rfl
theorem ml_9_171 : Cond.methodLink RX9 171 yX9_partAt ∈ xw := xt 1102 (by decide +kernel) rfl
theorem ml_9_215 : Cond.methodLink RX9 215 yX9_takeTwo ∈ xw := xt 1110 (by decide +kernel) rfl
theorem ml_9_200 : Cond.methodLink RX9 200 yX9_beginHeap ∈ xw := xt 1114 (by decide +kernel) rfl
theorem ml_9_191 : Cond.methodLink RX9 191 yX9_toHeap ∈ xw := xt 1118 (by decide +kernel) rfl
theorem ml_9_181 : Cond.methodLink RX9 181 yX9_findInHeap ∈ xw := xt 1122 (by decide +kernel) rfl
theorem ml_9_209 : Cond.methodLink RX9 209 yX9_grow ∈ xw := xt 1126 (by decide +kernel) rfl
theorem ml_9_188 : Cond.methodLink RX9 188 yX9_fromHeap ∈ xw := xt 1130 (by decide +kernel) rfl
theorem ml_9_212 : Cond.methodLink RX9 212 yX9_partAll ∈ xw := xt 1134 (by decide +kernel) rfl
theorem ml_9_197 : Cond.methodLink RX9 197 yX9_partOnce ∈ xw := xt 1138 (by decide +kernel) rfl
theorem ml_9_194 : Cond.methodLink RX9 194 yX9_isSameNow ∈ xw := xt 1142 (by decide +kernel) rfl
theorem ml_9_219 : Cond.methodLink RX9 219 yX9_isParted ∈ xw := xt 1150 (by decide +kernel) rfl
theorem ml_9_223 : Cond.methodLink RX9 223 yX9_rowsOf ∈ xw := xt 1166 (by decide +kernel) rfl
theorem ml_9_235 : Cond.methodLink RX9 235 yX9_isTokenBack ∈ xw := xt 1170 (by decide +kernel) rfl
theorem ml_9_229 : Cond.methodLink RX9 229 yX9_rowAt ∈ xw := xt 1174 (by decide +kernel) rfl
theorem ml_9_232 : Cond.methodLink RX9 232 yX9_placeNow ∈ xw := xt 1178 (by decide +kernel) rfl
theorem ml_9_238 : Cond.methodLink RX9 238 yX9_common ∈ xw := xt 1182 (by decide +kernel) rfl
theorem ml_9_244 : Cond.methodLink RX9 244 yX9_findLevel ∈ xw := xt 1190 (by decide +kernel) rfl
theorem ml_9_247 : Cond.methodLink RX9 247 yJ9_min_7cf53 ∈ xw := xt 1194 (by decide +kernel) rfl
theorem ml_9_255 : Cond.methodLink RX9 255 yX9_takeLevel ∈ xw := xt 1199 (by decide +kernel) rfl
theorem ml_9_258 : Cond.methodLink RX9 258 yX9_findFar ∈ xw := xt 1203 (by decide +kernel) rfl
theorem ml_9_264 : Cond.methodLink RX9 264 yX9_takeRows ∈ xw := xt 1211 (by decide +kernel) rfl
theorem ml_9_267 : Cond.methodLink RX9 267 yX9_far ∈ xw := xt 1219 (by decide +kernel) rfl
theorem ml_9_270 : Cond.methodLink RX9 270 yX9_findFarTo ∈ xw := xt 1220 (by decide +kernel) rfl
theorem ml_9_273 : Cond.methodLink RX9 273 yJ9_max_7cf53 ∈ xw := xt 1228 (by decide +kernel) rfl
theorem ml_9_283 : Cond.methodLink RX9 283 yX9_toGroup ∈ xw := xt 1233 (by decide +kernel) rfl
theorem ml_9_287 : Cond.methodLink RX9 287 yX9_made ∈ xw := xt 1238 (by decide +kernel) rfl
theorem ml_9_293 : Cond.methodLink RX9 293 yX9_takeShort ∈ xw := xt 1247 (by decide +kernel) rfl
theorem ml_9_296 : Cond.methodLink RX9 296 yX9_findLaw ∈ xw := xt 1256 (by decide +kernel) rfl
theorem ml_9_305 : Cond.methodLink RX9 305 yX9_beginFall ∈ xw := xt 1268 (by decide +kernel) rfl
theorem ml_9_308 : Cond.methodLink RX9 308 yX9_fallsAll ∈ xw := xt 1272 (by decide +kernel) rfl
theorem ml_9_302 : Cond.methodLink RX9 302 yX9_falls ∈ xw := xt 1276 (by decide +kernel) rfl
theorem ml_9_311 : Cond.methodLink RX9 311 yX9_fall ∈ xw := xt 1284 (by decide +kernel) rfl
theorem fk_7_9 : xlk RX7 9 7 0 := ⟨_, rfl, by decide, xt 31 (by decide +kernel) rfl⟩
theorem fp_7_9 : xlp RX7 9 7 0 .long := ⟨_, rfl, by decide, xt 31 (by decide +kernel) rfl, rfl, by decide +kernel⟩
theorem fk_4_65 : xlk RX4 65 7 0 := ⟨_, rfl, by decide, xt 32 (by decide +kernel) rfl⟩
theorem fp_4_65 : xlp RX4 65 7 0 .long := ⟨_, rfl, by decide, xt 32 (by decide +kernel) rfl, rfl, by decide +kernel⟩
theorem fk_8_297 : xlk RX8 297 7 0 := ⟨_, rfl, by decide, xt 33 (by decide +kernel) rfl⟩
theorem fp_8_297 : xlp RX8 297 7 0 .long := ⟨_, rfl, by decide, xt 33 (by decide +kernel) rfl, rfl, by decide +kernel⟩
theorem fk_7_15 : xlk RX7 15 7 1 := ⟨_, rfl, by decide, xt 34 (by decide +kernel) rfl⟩
theorem fp_7_15 : xlp RX7 15 7 1 .int := ⟨_, rfl, by decide, xt 34 (by decide +kernel) rfl, rfl, by decide +kernel⟩
theorem fk_4_69 : xlk RX4 69 7 1 := ⟨_, rfl, by decide, xt 35 (by decide +kernel) rfl⟩
theorem fp_4_69 : xlp RX4 69 7 1 .int := ⟨_, rfl, by decide, xt 35 (by decide +kernel) rfl, rfl, by decide +kernel⟩
theorem fk_6_100 : xlk RX6 100 7 1 := ⟨_, rfl, by decide, xt 36 (by decide +kernel) rfl⟩
theorem fp_6_100 : xlp RX6 100 7 1 .int := ⟨_, rfl, by decide, xt 36 (by decide +kernel) rfl, rfl, by decide +kernel⟩
theorem fk_2_85 : xlk RX2 85 7 1 := ⟨_, rfl, by decide, xt 37 (by decide +kernel) rfl⟩
theorem fp_2_85 : xlp RX2 85 7 1 .int := ⟨_, rfl, by decide, xt 37 (by decide +kernel) rfl, rfl, by decide +kernel⟩
theorem fk_8_163 : xlk RX8 163 7 1 := ⟨_, rfl, by decide, xt 38 (by decide +kernel) rfl⟩
theorem fp_8_163 : xlp RX8 163 7 1 .int := ⟨_, rfl, by decide, xt 38 (by decide +kernel) rfl, rfl, by decide +kernel⟩
theorem fk_3_9 : xlk RX3 9 3 0 := ⟨_, rfl, by decide, xt 51 (by decide +kernel) rfl⟩
theorem fk_8_130 : xlk RX8 130 3 0 := ⟨_, rfl, by decide, xt 52 (by decide +kernel) rfl⟩
theorem fk_3_15 : xlk RX3 15 3 1 := ⟨_, rfl, by decide, xt 53 (by decide +kernel) rfl⟩
theorem fk_8_133 : xlk RX8 133 3 1 := ⟨_, rfl, by decide, xt 54 (by decide +kernel) rfl⟩
theorem fk_3_18 : xlk RX3 18 3 2 := ⟨_, rfl, by decide, xt 55 (by decide +kernel) rfl⟩
theorem fk_2_58 : xlk RX2 58 3 2 := ⟨_, rfl, by decide, xt 56 (by decide +kernel) rfl⟩
theorem fk_7_22 : xlk RX7 22 3 2 := ⟨_, rfl, by decide, xt 57 (by decide +kernel) rfl⟩
theorem fk_3_21 : xlk RX3 21 3 3 := ⟨_, rfl, by decide, xt 58 (by decide +kernel) rfl⟩
theorem fk_2_61 : xlk RX2 61 3 3 := ⟨_, rfl, by decide, xt 59 (by decide +kernel) rfl⟩
theorem fk_7_28 : xlk RX7 28 3 3 := ⟨_, rfl, by decide, xt 60 (by decide +kernel) rfl⟩
theorem fk_3_24 : xlk RX3 24 3 4 := ⟨_, rfl, by decide, xt 61 (by decide +kernel) rfl⟩
theorem fk_2_51 : xlk RX2 51 3 4 := ⟨_, rfl, by decide, xt 62 (by decide +kernel) rfl⟩
theorem fk_6_103 : xlk RX6 103 3 4 := ⟨_, rfl, by decide, xt 63 (by decide +kernel) rfl⟩
theorem fk_3_27 : xlk RX3 27 3 5 := ⟨_, rfl, by decide, xt 64 (by decide +kernel) rfl⟩
theorem fp_3_27 : xlp RX3 27 3 5 .int := ⟨_, rfl, by decide, xt 64 (by decide +kernel) rfl, rfl, by decide +kernel⟩
theorem fk_2_48 : xlk RX2 48 3 5 := ⟨_, rfl, by decide, xt 65 (by decide +kernel) rfl⟩
theorem fp_2_48 : xlp RX2 48 3 5 .int := ⟨_, rfl, by decide, xt 65 (by decide +kernel) rfl, rfl, by decide +kernel⟩
theorem fk_6_93 : xlk RX6 93 3 5 := ⟨_, rfl, by decide, xt 66 (by decide +kernel) rfl⟩
theorem fp_6_93 : xlp RX6 93 3 5 .int := ⟨_, rfl, by decide, xt 66 (by decide +kernel) rfl, rfl, by decide +kernel⟩
theorem fk_8_142 : xlk RX8 142 3 5 := ⟨_, rfl, by decide, xt 67 (by decide +kernel) rfl⟩
theorem fp_8_142 : xlp RX8 142 3 5 .int := ⟨_, rfl, by decide, xt 67 (by decide +kernel) rfl, rfl, by decide +kernel⟩
theorem fk_3_31 : xlk RX3 31 3 6 := ⟨_, rfl, by decide, xt 68 (by decide +kernel) rfl⟩
theorem fp_3_31 : xlp RX3 31 3 6 .int := ⟨_, rfl, by decide, xt 68 (by decide +kernel) rfl, rfl, by decide +kernel⟩
theorem fk_2_43 : xlk RX2 43 3 6 := ⟨_, rfl, by decide, xt 69 (by decide +kernel) rfl⟩
theorem fp_2_43 : xlp RX2 43 3 6 .int := ⟨_, rfl, by decide, xt 69 (by decide +kernel) rfl, rfl, by decide +kernel⟩
theorem fk_4_90 : xlk RX4 90 3 6 := ⟨_, rfl, by decide, xt 70 (by decide +kernel) rfl⟩
theorem fp_4_90 : xlp RX4 90 3 6 .int := ⟨_, rfl, by decide, xt 70 (by decide +kernel) rfl, rfl, by decide +kernel⟩
theorem fk_8_136 : xlk RX8 136 3 6 := ⟨_, rfl, by decide, xt 71 (by decide +kernel) rfl⟩
theorem fp_8_136 : xlp RX8 136 3 6 .int := ⟨_, rfl, by decide, xt 71 (by decide +kernel) rfl, rfl, by decide +kernel⟩
theorem fk_6_131 : xlk RX6 131 3 6 := ⟨_, rfl, by decide, xt 72 (by decide +kernel) rfl⟩
theorem fp_6_131 : xlp RX6 131 3 6 .int := ⟨_, rfl, by decide, xt 72 (by decide +kernel) rfl, rfl, by decide +kernel⟩
theorem fk_3_34 : xlk RX3 34 3 7 := ⟨_, rfl, by decide, xt 73 (by decide +kernel) rfl⟩
theorem fp_3_34 : xlp RX3 34 3 7 .int := ⟨_, rfl, by decide, xt 73 (by decide +kernel) rfl, rfl, by decide +kernel⟩
theorem fk_8_102 : xlk RX8 102 3 7 := ⟨_, rfl, by decide, xt 74 (by decide +kernel) rfl⟩
theorem fp_8_102 : xlp RX8 102 3 7 .int := ⟨_, rfl, by decide, xt 74 (by decide +kernel) rfl, rfl, by decide +kernel⟩
theorem fk_3_37 : xlk RX3 37 3 8 := ⟨_, rfl, by decide, xt 75 (by decide +kernel) rfl⟩
theorem fp_3_37 : xlp RX3 37 3 8 .int := ⟨_, rfl, by decide, xt 75 (by decide +kernel) rfl, rfl, by decide +kernel⟩
theorem fk_3_40 : xlk RX3 40 3 9 := ⟨_, rfl, by decide, xt 76 (by decide +kernel) rfl⟩
theorem fp_3_40 : xlp RX3 40 3 9 .boolean := ⟨_, rfl, by decide, xt 76 (by decide +kernel) rfl, rfl, by decide +kernel⟩
theorem fk_6_52 : xlk RX6 52 3 9 := ⟨_, rfl, by decide, xt 77 (by decide +kernel) rfl⟩
theorem fp_6_52 : xlp RX6 52 3 9 .boolean := ⟨_, rfl, by decide, xt 77 (by decide +kernel) rfl, rfl, by decide +kernel⟩
theorem fk_8_139 : xlk RX8 139 3 9 := ⟨_, rfl, by decide, xt 78 (by decide +kernel) rfl⟩
theorem fp_8_139 : xlp RX8 139 3 9 .boolean := ⟨_, rfl, by decide, xt 78 (by decide +kernel) rfl, rfl, by decide +kernel⟩
theorem fk_2_11 : xlk RX2 11 2 0 := ⟨_, rfl, by decide, xt 106 (by decide +kernel) rfl⟩
theorem fk_2_15 : xlk RX2 15 2 1 := ⟨_, rfl, by decide, xt 107 (by decide +kernel) rfl⟩
theorem fk_2_18 : xlk RX2 18 2 2 := ⟨_, rfl, by decide, xt 108 (by decide +kernel) rfl⟩
theorem fk_2_21 : xlk RX2 21 2 3 := ⟨_, rfl, by decide, xt 109 (by decide +kernel) rfl⟩
theorem fk_8_240 : xlk RX8 240 2 3 := ⟨_, rfl, by decide, xt 110 (by decide +kernel) rfl⟩
theorem fk_2_24 : xlk RX2 24 2 4 := ⟨_, rfl, by decide, xt 111 (by decide +kernel) rfl⟩
theorem fk_8_253 : xlk RX8 253 2 4 := ⟨_, rfl, by decide, xt 112 (by decide +kernel) rfl⟩
theorem fk_2_27 : xlk RX2 27 2 5 := ⟨_, rfl, by decide, xt 113 (by decide +kernel) rfl⟩
theorem fk_2_30 : xlk RX2 30 2 6 := ⟨_, rfl, by decide, xt 114 (by decide +kernel) rfl⟩
theorem fk_2_33 : xlk RX2 33 2 7 := ⟨_, rfl, by decide, xt 115 (by decide +kernel) rfl⟩
theorem fp_2_33 : xlp RX2 33 2 7 .int := ⟨_, rfl, by decide, xt 115 (by decide +kernel) rfl, rfl, by decide +kernel⟩
theorem fk_0_16 : xlk RX0 16 0 0 := ⟨_, rfl, by decide, xt 145 (by decide +kernel) rfl⟩
theorem fk_1_50 : xlk RX1 50 0 0 := ⟨_, rfl, by decide, xt 146 (by decide +kernel) rfl⟩
theorem fk_4_76 : xlk RX4 76 0 0 := ⟨_, rfl, by decide, xt 147 (by decide +kernel) rfl⟩
theorem fk_0_20 : xlk RX0 20 0 1 := ⟨_, rfl, by decide, xt 148 (by decide +kernel) rfl⟩
theorem fk_4_80 : xlk RX4 80 0 1 := ⟨_, rfl, by decide, xt 149 (by decide +kernel) rfl⟩
theorem fk_0_24 : xlk RX0 24 0 2 := ⟨_, rfl, by decide, xt 150 (by decide +kernel) rfl⟩
theorem fk_0_9 : xlk RX0 9 0 3 := ⟨_, rfl, by decide, xt 151 (by decide +kernel) rfl⟩
theorem fp_0_9 : xlp RX0 9 0 3 .int := ⟨_, rfl, by decide, xt 151 (by decide +kernel) rfl, rfl, by decide +kernel⟩
theorem fk_1_41 : xlk RX1 41 0 3 := ⟨_, rfl, by decide, xt 152 (by decide +kernel) rfl⟩
theorem fp_1_41 : xlp RX1 41 0 3 .int := ⟨_, rfl, by decide, xt 152 (by decide +kernel) rfl, rfl, by decide +kernel⟩
theorem fk_6_75 : xlk RX6 75 0 3 := ⟨_, rfl, by decide, xt 153 (by decide +kernel) rfl⟩
theorem fp_6_75 : xlp RX6 75 0 3 .int := ⟨_, rfl, by decide, xt 153 (by decide +kernel) rfl, rfl, by decide +kernel⟩
theorem fk_4_93 : xlk RX4 93 0 3 := ⟨_, rfl, by decide, xt 154 (by decide +kernel) rfl⟩
theorem fp_4_93 : xlp RX4 93 0 3 .int := ⟨_, rfl, by decide, xt 154 (by decide +kernel) rfl, rfl, by decide +kernel⟩
theorem fk_8_212 : xlk RX8 212 0 3 := ⟨_, rfl, by decide, xt 155 (by decide +kernel) rfl⟩
theorem fp_8_212 : xlp RX8 212 0 3 .int := ⟨_, rfl, by decide, xt 155 (by decide +kernel) rfl, rfl, by decide +kernel⟩
theorem fk_0_13 : xlk RX0 13 0 4 := ⟨_, rfl, by decide, xt 156 (by decide +kernel) rfl⟩
theorem fp_0_13 : xlp RX0 13 0 4 .int := ⟨_, rfl, by decide, xt 156 (by decide +kernel) rfl, rfl, by decide +kernel⟩
theorem fk_1_14 : xlk RX1 14 1 0 := ⟨_, rfl, by decide, xt 169 (by decide +kernel) rfl⟩
theorem fk_8_267 : xlk RX8 267 1 0 := ⟨_, rfl, by decide, xt 170 (by decide +kernel) rfl⟩
theorem fk_1_20 : xlk RX1 20 1 1 := ⟨_, rfl, by decide, xt 171 (by decide +kernel) rfl⟩
theorem fk_1_24 : xlk RX1 24 1 2 := ⟨_, rfl, by decide, xt 172 (by decide +kernel) rfl⟩
theorem fp_1_24 : xlp RX1 24 1 2 .int := ⟨_, rfl, by decide, xt 172 (by decide +kernel) rfl, rfl, by decide +kernel⟩
theorem fk_1_28 : xlk RX1 28 1 3 := ⟨_, rfl, by decide, xt 173 (by decide +kernel) rfl⟩
theorem fp_1_28 : xlp RX1 28 1 3 .int := ⟨_, rfl, by decide, xt 173 (by decide +kernel) rfl, rfl, by decide +kernel⟩
theorem fk_4_14 : xlk RX4 14 4 0 := ⟨_, rfl, by decide, xt 193 (by decide +kernel) rfl⟩
theorem fk_6_71 : xlk RX6 71 4 0 := ⟨_, rfl, by decide, xt 194 (by decide +kernel) rfl⟩
theorem fk_8_208 : xlk RX8 208 4 0 := ⟨_, rfl, by decide, xt 195 (by decide +kernel) rfl⟩
theorem fk_4_20 : xlk RX4 20 4 1 := ⟨_, rfl, by decide, xt 196 (by decide +kernel) rfl⟩
theorem fk_4_23 : xlk RX4 23 4 2 := ⟨_, rfl, by decide, xt 197 (by decide +kernel) rfl⟩
theorem fk_4_27 : xlk RX4 27 4 3 := ⟨_, rfl, by decide, xt 198 (by decide +kernel) rfl⟩
theorem fk_4_30 : xlk RX4 30 4 4 := ⟨_, rfl, by decide, xt 199 (by decide +kernel) rfl⟩
theorem fk_6_152 : xlk RX6 152 4 4 := ⟨_, rfl, by decide, xt 200 (by decide +kernel) rfl⟩
theorem fk_4_33 : xlk RX4 33 4 5 := ⟨_, rfl, by decide, xt 201 (by decide +kernel) rfl⟩
theorem fk_4_36 : xlk RX4 36 4 6 := ⟨_, rfl, by decide, xt 202 (by decide +kernel) rfl⟩
theorem fk_4_42 : xlk RX4 42 4 7 := ⟨_, rfl, by decide, xt 203 (by decide +kernel) rfl⟩
theorem fk_4_46 : xlk RX4 46 4 8 := ⟨_, rfl, by decide, xt 204 (by decide +kernel) rfl⟩
theorem fp_4_46 : xlp RX4 46 4 8 .int := ⟨_, rfl, by decide, xt 204 (by decide +kernel) rfl, rfl, by decide +kernel⟩
theorem fk_4_50 : xlk RX4 50 4 9 := ⟨_, rfl, by decide, xt 205 (by decide +kernel) rfl⟩
theorem fp_4_50 : xlp RX4 50 4 9 .int := ⟨_, rfl, by decide, xt 205 (by decide +kernel) rfl, rfl, by decide +kernel⟩
theorem fk_4_53 : xlk RX4 53 4 10 := ⟨_, rfl, by decide, xt 206 (by decide +kernel) rfl⟩
theorem fp_4_53 : xlp RX4 53 4 10 .int := ⟨_, rfl, by decide, xt 206 (by decide +kernel) rfl, rfl, by decide +kernel⟩
theorem fk_4_56 : xlk RX4 56 4 11 := ⟨_, rfl, by decide, xt 207 (by decide +kernel) rfl⟩
theorem fp_4_56 : xlp RX4 56 4 11 .int := ⟨_, rfl, by decide, xt 207 (by decide +kernel) rfl, rfl, by decide +kernel⟩
theorem fk_8_217 : xlk RX8 217 4 11 := ⟨_, rfl, by decide, xt 208 (by decide +kernel) rfl⟩
theorem fp_8_217 : xlp RX8 217 4 11 .int := ⟨_, rfl, by decide, xt 208 (by decide +kernel) rfl, rfl, by decide +kernel⟩
theorem fk_4_59 : xlk RX4 59 4 12 := ⟨_, rfl, by decide, xt 209 (by decide +kernel) rfl⟩
theorem fp_4_59 : xlp RX4 59 4 12 .int := ⟨_, rfl, by decide, xt 209 (by decide +kernel) rfl, rfl, by decide +kernel⟩
theorem fk_6_12 : xlk RX6 12 6 0 := ⟨_, rfl, by decide, xt 247 (by decide +kernel) rfl⟩
theorem fk_8_273 : xlk RX8 273 6 0 := ⟨_, rfl, by decide, xt 248 (by decide +kernel) rfl⟩
theorem fk_6_21 : xlk RX6 21 6 1 := ⟨_, rfl, by decide, xt 249 (by decide +kernel) rfl⟩
theorem fk_6_25 : xlk RX6 25 6 2 := ⟨_, rfl, by decide, xt 250 (by decide +kernel) rfl⟩
theorem fk_6_28 : xlk RX6 28 6 3 := ⟨_, rfl, by decide, xt 251 (by decide +kernel) rfl⟩
theorem fk_8_290 : xlk RX8 290 6 3 := ⟨_, rfl, by decide, xt 252 (by decide +kernel) rfl⟩
theorem fk_6_32 : xlk RX6 32 6 4 := ⟨_, rfl, by decide, xt 253 (by decide +kernel) rfl⟩
theorem fk_6_35 : xlk RX6 35 6 5 := ⟨_, rfl, by decide, xt 254 (by decide +kernel) rfl⟩
theorem fk_6_38 : xlk RX6 38 6 6 := ⟨_, rfl, by decide, xt 255 (by decide +kernel) rfl⟩
theorem fp_6_38 : xlp RX6 38 6 6 .int := ⟨_, rfl, by decide, xt 255 (by decide +kernel) rfl, rfl, by decide +kernel⟩
theorem fk_8_287 : xlk RX8 287 6 6 := ⟨_, rfl, by decide, xt 256 (by decide +kernel) rfl⟩
theorem fp_8_287 : xlp RX8 287 6 6 .int := ⟨_, rfl, by decide, xt 256 (by decide +kernel) rfl, rfl, by decide +kernel⟩
theorem fk_6_42 : xlk RX6 42 6 7 := ⟨_, rfl, by decide, xt 257 (by decide +kernel) rfl⟩
theorem fp_6_42 : xlp RX6 42 6 7 .int := ⟨_, rfl, by decide, xt 257 (by decide +kernel) rfl, rfl, by decide +kernel⟩
theorem fk_6_45 : xlk RX6 45 6 8 := ⟨_, rfl, by decide, xt 258 (by decide +kernel) rfl⟩
theorem fp_6_45 : xlp RX6 45 6 8 .int := ⟨_, rfl, by decide, xt 258 (by decide +kernel) rfl, rfl, by decide +kernel⟩
theorem fk_6_48 : xlk RX6 48 6 9 := ⟨_, rfl, by decide, xt 259 (by decide +kernel) rfl⟩
theorem fp_6_48 : xlp RX6 48 6 9 .boolean := ⟨_, rfl, by decide, xt 259 (by decide +kernel) rfl, rfl, by decide +kernel⟩
theorem fk_5_9 : xlk RX5 9 5 0 := ⟨_, rfl, by decide, xt 286 (by decide +kernel) rfl⟩
theorem fk_8_85 : xlk RX8 85 5 0 := ⟨_, rfl, by decide, xt 287 (by decide +kernel) rfl⟩
theorem fk_3_53 : xlk RX3 53 5 0 := ⟨_, rfl, by decide, xt 288 (by decide +kernel) rfl⟩
theorem fk_5_21 : xlk RX5 21 5 1 := ⟨_, rfl, by decide, xt 289 (by decide +kernel) rfl⟩
theorem fp_5_21 : xlp RX5 21 5 1 .boolean := ⟨_, rfl, by decide, xt 289 (by decide +kernel) rfl, rfl, by decide +kernel⟩
theorem fk_8_74 : xlk RX8 74 5 1 := ⟨_, rfl, by decide, xt 290 (by decide +kernel) rfl⟩
theorem fp_8_74 : xlp RX8 74 5 1 .boolean := ⟨_, rfl, by decide, xt 290 (by decide +kernel) rfl, rfl, by decide +kernel⟩
theorem fk_5_25 : xlk RX5 25 5 2 := ⟨_, rfl, by decide, xt 291 (by decide +kernel) rfl⟩
theorem fp_5_25 : xlp RX5 25 5 2 .int := ⟨_, rfl, by decide, xt 291 (by decide +kernel) rfl, rfl, by decide +kernel⟩
theorem fk_5_29 : xlk RX5 29 5 3 := ⟨_, rfl, by decide, xt 292 (by decide +kernel) rfl⟩
theorem fp_5_29 : xlp RX5 29 5 3 .int := ⟨_, rfl, by decide, xt 292 (by decide +kernel) rfl, rfl, by decide +kernel⟩
theorem fk_8_11 : xlk RX8 11 8 0 := ⟨_, rfl, by decide, xt 302 (by decide +kernel) rfl⟩
theorem fk_8_17 : xlk RX8 17 8 1 := ⟨_, rfl, by decide, xt 303 (by decide +kernel) rfl⟩
theorem fk_8_21 : xlk RX8 21 8 2 := ⟨_, rfl, by decide, xt 304 (by decide +kernel) rfl⟩
theorem fk_8_26 : xlk RX8 26 8 3 := ⟨_, rfl, by decide, xt 305 (by decide +kernel) rfl⟩
theorem fk_8_33 : xlk RX8 33 8 4 := ⟨_, rfl, by decide, xt 306 (by decide +kernel) rfl⟩
theorem fk_8_40 : xlk RX8 40 8 5 := ⟨_, rfl, by decide, xt 307 (by decide +kernel) rfl⟩
theorem fk_8_47 : xlk RX8 47 8 6 := ⟨_, rfl, by decide, xt 308 (by decide +kernel) rfl⟩
theorem fk_8_54 : xlk RX8 54 8 7 := ⟨_, rfl, by decide, xt 309 (by decide +kernel) rfl⟩
theorem fk_8_61 : xlk RX8 61 8 8 := ⟨_, rfl, by decide, xt 310 (by decide +kernel) rfl⟩
theorem fk_9_7 : xlk RX9 7 9 0 := ⟨_, rfl, by decide, xt 847 (by decide +kernel) rfl⟩
theorem fk_9_13 : xlk RX9 13 9 1 := ⟨_, rfl, by decide, xt 848 (by decide +kernel) rfl⟩
theorem fk_9_16 : xlk RX9 16 9 2 := ⟨_, rfl, by decide, xt 849 (by decide +kernel) rfl⟩
theorem fk_9_19 : xlk RX9 19 9 3 := ⟨_, rfl, by decide, xt 850 (by decide +kernel) rfl⟩
theorem fp_9_19 : xlp RX9 19 9 3 .int := ⟨_, rfl, by decide, xt 850 (by decide +kernel) rfl, rfl, by decide +kernel⟩
theorem fk_9_116 : xlk RX9 116 9 4 := ⟨_, rfl, by decide, xt 851 (by decide +kernel) rfl⟩
theorem fp_9_116 : xlp RX9 116 9 4 .int := ⟨_, rfl, by decide, xt 851 (by decide +kernel) rfl, rfl, by decide +kernel⟩
theorem fk_9_23 : xlk RX9 23 9 5 := ⟨_, rfl, by decide, xt 852 (by decide +kernel) rfl⟩
theorem fk_9_26 : xlk RX9 26 9 6 := ⟨_, rfl, by decide, xt 853 (by decide +kernel) rfl⟩
theorem fk_9_29 : xlk RX9 29 9 7 := ⟨_, rfl, by decide, xt 854 (by decide +kernel) rfl⟩
theorem fk_9_32 : xlk RX9 32 9 8 := ⟨_, rfl, by decide, xt 855 (by decide +kernel) rfl⟩
theorem fk_9_35 : xlk RX9 35 9 9 := ⟨_, rfl, by decide, xt 856 (by decide +kernel) rfl⟩
theorem fk_9_39 : xlk RX9 39 9 10 := ⟨_, rfl, by decide, xt 857 (by decide +kernel) rfl⟩
theorem fk_9_127 : xlk RX9 127 9 11 := ⟨_, rfl, by decide, xt 858 (by decide +kernel) rfl⟩
theorem fp_9_127 : xlp RX9 127 9 11 .int := ⟨_, rfl, by decide, xt 858 (by decide +kernel) rfl, rfl, by decide +kernel⟩
theorem fk_9_42 : xlk RX9 42 9 12 := ⟨_, rfl, by decide, xt 859 (by decide +kernel) rfl⟩
theorem fk_9_147 : xlk RX9 147 9 13 := ⟨_, rfl, by decide, xt 860 (by decide +kernel) rfl⟩
theorem fp_9_147 : xlp RX9 147 9 13 .int := ⟨_, rfl, by decide, xt 860 (by decide +kernel) rfl, rfl, by decide +kernel⟩
theorem fk_9_150 : xlk RX9 150 9 14 := ⟨_, rfl, by decide, xt 861 (by decide +kernel) rfl⟩
theorem fp_9_150 : xlp RX9 150 9 14 .int := ⟨_, rfl, by decide, xt 861 (by decide +kernel) rfl, rfl, by decide +kernel⟩
theorem fk_9_45 : xlk RX9 45 9 15 := ⟨_, rfl, by decide, xt 862 (by decide +kernel) rfl⟩
theorem fk_9_156 : xlk RX9 156 9 16 := ⟨_, rfl, by decide, xt 863 (by decide +kernel) rfl⟩
theorem fp_9_156 : xlp RX9 156 9 16 .int := ⟨_, rfl, by decide, xt 863 (by decide +kernel) rfl, rfl, by decide +kernel⟩
theorem fk_9_48 : xlk RX9 48 9 17 := ⟨_, rfl, by decide, xt 864 (by decide +kernel) rfl⟩
theorem fk_9_51 : xlk RX9 51 9 18 := ⟨_, rfl, by decide, xt 865 (by decide +kernel) rfl⟩
theorem fk_9_54 : xlk RX9 54 9 19 := ⟨_, rfl, by decide, xt 866 (by decide +kernel) rfl⟩
theorem fk_9_57 : xlk RX9 57 9 20 := ⟨_, rfl, by decide, xt 867 (by decide +kernel) rfl⟩
theorem fk_9_178 : xlk RX9 178 9 21 := ⟨_, rfl, by decide, xt 868 (by decide +kernel) rfl⟩
theorem fp_9_178 : xlp RX9 178 9 21 .int := ⟨_, rfl, by decide, xt 868 (by decide +kernel) rfl, rfl, by decide +kernel⟩
theorem fk_9_185 : xlk RX9 185 9 22 := ⟨_, rfl, by decide, xt 869 (by decide +kernel) rfl⟩
theorem fp_9_185 : xlp RX9 185 9 22 .int := ⟨_, rfl, by decide, xt 869 (by decide +kernel) rfl, rfl, by decide +kernel⟩
theorem fk_9_60 : xlk RX9 60 9 23 := ⟨_, rfl, by decide, xt 870 (by decide +kernel) rfl⟩
theorem fk_9_63 : xlk RX9 63 9 24 := ⟨_, rfl, by decide, xt 871 (by decide +kernel) rfl⟩
theorem fk_9_66 : xlk RX9 66 9 25 := ⟨_, rfl, by decide, xt 872 (by decide +kernel) rfl⟩
theorem fk_9_203 : xlk RX9 203 9 26 := ⟨_, rfl, by decide, xt 873 (by decide +kernel) rfl⟩
theorem fp_9_203 : xlp RX9 203 9 26 .int := ⟨_, rfl, by decide, xt 873 (by decide +kernel) rfl, rfl, by decide +kernel⟩
theorem fk_9_206 : xlk RX9 206 9 27 := ⟨_, rfl, by decide, xt 874 (by decide +kernel) rfl⟩
theorem fp_9_206 : xlp RX9 206 9 27 .int := ⟨_, rfl, by decide, xt 874 (by decide +kernel) rfl, rfl, by decide +kernel⟩
theorem fk_9_226 : xlk RX9 226 9 28 := ⟨_, rfl, by decide, xt 875 (by decide +kernel) rfl⟩
theorem fp_9_226 : xlp RX9 226 9 28 .int := ⟨_, rfl, by decide, xt 875 (by decide +kernel) rfl, rfl, by decide +kernel⟩
theorem fk_9_69 : xlk RX9 69 9 29 := ⟨_, rfl, by decide, xt 876 (by decide +kernel) rfl⟩
theorem fk_9_72 : xlk RX9 72 9 30 := ⟨_, rfl, by decide, xt 877 (by decide +kernel) rfl⟩
theorem fk_9_75 : xlk RX9 75 9 31 := ⟨_, rfl, by decide, xt 878 (by decide +kernel) rfl⟩
theorem fk_9_78 : xlk RX9 78 9 32 := ⟨_, rfl, by decide, xt 879 (by decide +kernel) rfl⟩
theorem fk_9_252 : xlk RX9 252 9 33 := ⟨_, rfl, by decide, xt 880 (by decide +kernel) rfl⟩
theorem fp_9_252 : xlp RX9 252 9 33 .int := ⟨_, rfl, by decide, xt 880 (by decide +kernel) rfl, rfl, by decide +kernel⟩
theorem fk_9_261 : xlk RX9 261 9 34 := ⟨_, rfl, by decide, xt 881 (by decide +kernel) rfl⟩
theorem fp_9_261 : xlp RX9 261 9 34 .int := ⟨_, rfl, by decide, xt 881 (by decide +kernel) rfl, rfl, by decide +kernel⟩
theorem fk_9_81 : xlk RX9 81 9 35 := ⟨_, rfl, by decide, xt 882 (by decide +kernel) rfl⟩
theorem fk_9_84 : xlk RX9 84 9 36 := ⟨_, rfl, by decide, xt 883 (by decide +kernel) rfl⟩
theorem fk_9_88 : xlk RX9 88 9 37 := ⟨_, rfl, by decide, xt 884 (by decide +kernel) rfl⟩
theorem fk_9_278 : xlk RX9 278 9 38 := ⟨_, rfl, by decide, xt 885 (by decide +kernel) rfl⟩
theorem fp_9_278 : xlp RX9 278 9 38 .int := ⟨_, rfl, by decide, xt 885 (by decide +kernel) rfl, rfl, by decide +kernel⟩
theorem fk_9_91 : xlk RX9 91 9 39 := ⟨_, rfl, by decide, xt 886 (by decide +kernel) rfl⟩
theorem fk_9_94 : xlk RX9 94 9 40 := ⟨_, rfl, by decide, xt 887 (by decide +kernel) rfl⟩
theorem fk_9_299 : xlk RX9 299 9 41 := ⟨_, rfl, by decide, xt 888 (by decide +kernel) rfl⟩
theorem fp_9_299 : xlp RX9 299 9 41 .int := ⟨_, rfl, by decide, xt 888 (by decide +kernel) rfl, rfl, by decide +kernel⟩
theorem cs_8_84 : Cond.constant RX8 84 (-2147483648) ∈ xw := xt 360 (by decide +kernel) rfl
theorem cs_0_27 : Cond.constant RX0 27 (500000) ∈ xw := xt 566 (by decide +kernel) rfl
theorem cs_0_38 : Cond.constantLong RX0 38 (-7046029254386353131) ∈ xw := xt 580 (by decide +kernel) rfl
theorem cs_2_83 : Cond.constantLong RX2 83 (1000000) ∈ xw := xt 684 (by decide +kernel) rfl
theorem cs_1_61 : Cond.constantLong RX1 61 (15) ∈ xw := xt 757 (by decide +kernel) rfl
theorem cs_9_97 : Cond.constantLong RX9 97 (3) ∈ xw := xt 982 (by decide +kernel) rfl
theorem cs_9_109 : Cond.constantLong RX9 109 (2) ∈ xw := xt 986 (by decide +kernel) rfl
theorem cs_9_113 : Cond.constant RX9 113 (-2147483648) ∈ xw := xt 995 (by decide +kernel) rfl
theorem cs_9_114 : Cond.constantLong RX9 114 (4) ∈ xw := xt 1004 (by decide +kernel) rfl
theorem cs_9_119 : Cond.constantLong RX9 119 (-1) ∈ xw := xt 1009 (by decide +kernel) rfl
theorem cs_9_103 : Cond.constantLong RX9 103 (7) ∈ xw := xt 1010 (by decide +kernel) rfl
theorem cs_9_242 : Cond.constantLong RX9 242 (1000000) ∈ xw := xt 1185 (by decide +kernel) rfl
theorem cs_9_276 : Cond.constantLong RX9 276 (-7046029254386353131) ∈ xw := xt 1237 (by decide +kernel) rfl
theorem cs_9_281 : Cond.constantLong RX9 281 (15) ∈ xw := xt 1242 (by decide +kernel) rfl
theorem cs_9_291 : Cond.constantLong RX9 291 (5) ∈ xw := xt 1251 (by decide +kernel) rfl
theorem bi_m8 : (Int8.ofInt (-8)).toInt32 = (-8 : Int32) := by decide
theorem bi_m7 : (Int8.ofInt (-7)).toInt32 = (-7 : Int32) := by decide
theorem bi_m6 : (Int8.ofInt (-6)).toInt32 = (-6 : Int32) := by decide
theorem bi_m5 : (Int8.ofInt (-5)).toInt32 = (-5 : Int32) := by decide
theorem bi_m4 : (Int8.ofInt (-4)).toInt32 = (-4 : Int32) := by decide
theorem bi_m3 : (Int8.ofInt (-3)).toInt32 = (-3 : Int32) := by decide
theorem bi_m2 : (Int8.ofInt (-2)).toInt32 = (-2 : Int32) := by decide
theorem bi_8 : (Int8.ofInt (8)).toInt32 = (8 : Int32) := by decide
theorem bi_9 : (Int8.ofInt (9)).toInt32 = (9 : Int32) := by decide
theorem bi_10 : (Int8.ofInt (10)).toInt32 = (10 : Int32) := by decide
theorem bi_11 : (Int8.ofInt (11)).toInt32 = (11 : Int32) := by decide
theorem bi_12 : (Int8.ofInt (12)).toInt32 = (12 : Int32) := by decide
theorem bi_14 : (Int8.ofInt (14)).toInt32 = (14 : Int32) := by decide
theorem bi_15 : (Int8.ofInt (15)).toInt32 = (15 : Int32) := by decide
theorem bi_16 : (Int8.ofInt (16)).toInt32 = (16 : Int32) := by decide
theorem bi_20 : (Int8.ofInt (20)).toInt32 = (20 : Int32) := by decide
theorem bi_32 : (Int8.ofInt (32)).toInt32 = (32 : Int32) := by decide
theorem bi_34 : (Int8.ofInt (34)).toInt32 = (34 : Int32) := by decide
theorem bi_40 : (Int8.ofInt (40)).toInt32 = (40 : Int32) := by decide
theorem bi_51 : (Int8.ofInt (51)).toInt32 = (51 : Int32) := by decide
theorem bi_64 : (Int8.ofInt (64)).toInt32 = (64 : Int32) := by decide
theorem bi_100 : (Int8.ofInt (100)).toInt32 = (100 : Int32) := by decide
theorem si_160 : (Int16.ofInt (160)).toInt32 = (160 : Int32) := by decide
theorem si_200 : (Int16.ofInt (200)).toInt32 = (200 : Int32) := by decide
theorem si_201 : (Int16.ofInt (201)).toInt32 = (201 : Int32) := by decide
theorem si_256 : (Int16.ofInt (256)).toInt32 = (256 : Int32) := by decide
theorem si_408 : (Int16.ofInt (408)).toInt32 = (408 : Int32) := by decide
theorem si_512 : (Int16.ofInt (512)).toInt32 = (512 : Int32) := by decide
theorem si_800 : (Int16.ofInt (800)).toInt32 = (800 : Int32) := by decide
theorem si_804 : (Int16.ofInt (804)).toInt32 = (804 : Int32) := by decide
theorem si_2800 : (Int16.ofInt (2800)).toInt32 = (2800 : Int32) := by decide
theorem si_3000 : (Int16.ofInt (3000)).toInt32 = (3000 : Int32) := by decide
theorem si_3001 : (Int16.ofInt (3001)).toInt32 = (3001 : Int32) := by decide
theorem si_3015 : (Int16.ofInt (3015)).toInt32 = (3015 : Int32) := by decide
theorem si_3216 : (Int16.ofInt (3216)).toInt32 = (3216 : Int32) := by decide
theorem si_4095 : (Int16.ofInt (4095)).toInt32 = (4095 : Int32) := by decide
theorem si_4096 : (Int16.ofInt (4096)).toInt32 = (4096 : Int32) := by decide
theorem si_8192 : (Int16.ofInt (8192)).toInt32 = (8192 : Int32) := by decide
theorem ii_m1 : Int32.ofInt (-1) = (-1 : Int32) := by decide
theorem ii_1 : Int32.ofInt (1) = (1 : Int32) := by decide
end
