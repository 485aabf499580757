/-! THE CLAIM OUT OF ONE WALK OF THE LAW'S BODY. Your part is whole_start (and what it stands on); all else here is the same for every law, but numbers. -/
def R_law : String := "SwitchTowerLaw"
def lw_P (b : Addr) (xs : List Int32) (args : Array Value) (s : State) : Prop := args = #[.ref b] ∧ s.IntsAt b xs ∧ xs.length ≤ 3072 ∧ (Jvm.Cond.and given_1 narrow_1).before args s = true
def lw_Q (_ : Array Value) (s : State) (o : Outcome) (t : State) : Prop := o = .returned (some (.int 1)) ∧ Framed s o t [] 600000 7302250
def lw_Z (below : List Frame) (a : Array Value) (s : State) : State → Prop := fun t => ∃ o, t.status = .running ∧ Ended t below o ∧ lw_Q a s o t
/-- the law's own end, with 1 on the stack, nothing written that was there before, its room as the claim has it -/
theorem lw_ret {p : Program} {l : Launch} {e : Env} {s : State} {m : MethodId} {below : List Frame} {meth : Method} {c : Code} {b : Nat} (hx : p.tables.exec = Jvm.exec) (hb : c.code = code) (hr : meth.sig.returnType = ret) (hlocks : meth.locks = false) {pc : Nat} {H : Heap} {ls : Array Slot} (hdg : decode code pc = .ok (.ireturn, 1)) : W p l e room_1 s m #[Value.ref b] below meth c H [] 600000 7302250 (lw_Z below #[Value.ref b] s) (F0 m pc ls [.int 1]) := by
  intro T hT X
  obtain ⟨fs, hret, hrun, hended, hW, hframe⟩ := X.leave (v := some (.int 1)) (hlocks := hlocks) (fun h => by rw [hr] at h; cases h)
  have hmeth' : T.vm.method? m = some meth := X.method'
  refine ⟨T.setFrames fs, ?_, .returned (some (.int 1)), hrun, hended, rfl, ⟨_, rfl⟩, hW, hframe⟩
  jvm_step X.here [X.here.top, hx, hb, hdg, hmeth', hr, ret, narrow_b1]
  (try refine ⟨rfl, ?_⟩); (try refine ⟨rfl, ?_⟩)
  first | (intro acts; rw [hret _ acts rfl rfl rfl]) | rw [hret _ _ rfl rfl rfl]
  exact Steps.refl _
/-- what holds at the law's entry: the machine, the code, the tables' words (any of lw_tbl by 'hts w (by decide +kernel)'), the script of L ints xs at the cell b, what the Statement gives of the start (any of its parts by flat_of_before) -/
def lw_At (p : Program) (s : State) (m : MethodId) (meth : Method) (c : Code) (b L : Nat) (xs : Nat → Int32) : Prop :=
  p.tables.exec = Jvm.exec ∧ c.code = code ∧ meth.sig.returnType = ret ∧ c.maxLocals = 4 ∧ s.vm.findClass R_law = some m.cls ∧ (∀ w ∈ lw_tbl, w.before #[Value.ref b] s = true) ∧ va_X b L xs s s.heap ∧ b < s.heap.size ∧ meth.locks = false ∧ (Jvm.Cond.and given_1 narrow_1).before #[Value.ref b] s = true

abbrev zLV (G : xG) (b k : Nat) : xL := [some (.ref b), some (.ref (G.1 0)), some (.ref (G.1 77)), some (.int (nI k))]
def M_law : xM := (yL_law, cL_law, 4, some .boolean, room_1, 600000, 7302250)
/-- what the law's walk knows of its start -/
def zH (b L : Nat) (xs : Nat → Int32) (args : Array Value) (s : State) (A : Nat → Prop) : Prop := args = #[.ref b] ∧ va_X b L xs s s.heap ∧ b < s.heap.size ∧ ¬ A b ∧ ∀ q, A q → s.heap.size ≤ q
def zQ (b L : Nat) (xs : Nat → Int32) : xQT := fun below args s A t => zH b L xs args s A → lw_Z below args s t
section C3
variable {G : xG} {b L : Nat} {xs : Nat → Int32} {pc : Nat} {lv : xL} {st : List Value} {I : xI} {J : xJ}
theorem zr_sld {i : Int32} (j : Nat) (hd : decode M_law.2.1 pc = .ok (.iaload, 1)) (hi : i = nI j) (hj : j < L) (hn : L < 2 ^ 31) (kk : xT G M_law (zQ b L xs) (pc + 1) lv (.int (xs j) :: st) I J) : xT G M_law (zQ b L xs) pc lv (.int i :: .ref b :: st) I J := by
  intro p l e s m args below meth c A C H locs ls hl hP hS
  by_cases h : zH b L xs args s A
  · obtain ⟨h1, h2, h3, h4, h5⟩ := h
    have hin : vp_in i L := by rw [hi]; exact vp_in_nI hj hn
    have hcl : i.toNatClampNeg = j := by rw [hi]; exact nI_clamp (by omega)
    refine va_sld C.1 C.2.1 h2 h3 h4 hS hin hd ?_
    rw [hcl]
    exact kk p l e s m args below meth c A C H locs ls hl hP hS
  · intro T hT X
    exact ⟨_, Steps.refl _, fun q => absurd q h⟩
theorem zr_slen (hd : decode M_law.2.1 pc = .ok (.arraylength, 1)) (kk : xT G M_law (zQ b L xs) (pc + 1) lv (.int (nI L) :: st) I J) : xT G M_law (zQ b L xs) pc lv (.ref b :: st) I J := by
  intro p l e s m args below meth c A C H locs ls hl hP hS
  by_cases h : zH b L xs args s A
  · obtain ⟨h1, h2, h3, h4, h5⟩ := h
    exact va_slen C.1 C.2.1 h2 h3 h4 hS hd (kk p l e s m args below meth c A C H locs ls hl hP hS)
  · intro T hT X
    exact ⟨_, Steps.refl _, fun q => absurd q h⟩
theorem zr_ret (hd : decode M_law.2.1 pc = .ok (.ireturn, 1)) : xT G M_law (zQ b L xs) pc lv [.int 1] I J := by
  intro p l e s m args below meth c A C H locs ls hl hP hS
  by_cases h : zH b L xs args s A
  · obtain ⟨h1, h2, h3, h4, h5⟩ := h
    subst h1
    refine va_forget (fun q hq => h5 _ (hS.2.2 q hq)) ?_
    intro T hT X
    obtain ⟨t, a1, b1⟩ := lw_ret (pc := pc) (ls := ls) C.1 C.2.1 C.2.2.2.2.2.2.2.2.2.1 C.2.2.2.2.2.2.2.2.1 hd T hT X
    exact ⟨t, a1, fun _ => b1⟩
  · intro T hT X
    exact ⟨_, Steps.refl _, fun q => absurd q h⟩
theorem zr_a1 {k : Nat} (h0 : decode M_law.2.1 pc = .ok (.aload_n 0, 1)) (h1 : decode M_law.2.1 (pc + 1) = .ok (.iload_n 3, 1)) (h2 : decode M_law.2.1 (pc + 1 + 1) = .ok (.iconst 1, 1)) (h3 : decode M_law.2.1 (pc + 1 + 1 + 1) = .ok (.iadd, 1)) (h4 : decode M_law.2.1 (pc + 1 + 1 + 1 + 1) = .ok (.iaload, 1)) (hk : k + 6 ≤ L) (hL : L ≤ 3072) (kk : xT G M_law (zQ b L xs) (pc + 1 + 1 + 1 + 1 + 1) (zLV G b k) (.int (xs (k + 1)) :: st) I J) : xT G M_law (zQ b L xs) pc (zLV G b k) st I J := by
  refine xr_aload0 h0 rfl ?_
  refine xr_iload3 h1 rfl ?_
  refine xr_ic1 h2 ?_
  refine xr_iadd h3 ?_
  exact zr_sld (k + 1) h4 (nI_add k 1) (by omega) (by omega) kk
theorem zr_a2 {k : Nat} (h0 : decode M_law.2.1 pc = .ok (.aload_n 0, 1)) (h1 : decode M_law.2.1 (pc + 1) = .ok (.iload_n 3, 1)) (h2 : decode M_law.2.1 (pc + 1 + 1) = .ok (.iconst 2, 1)) (h3 : decode M_law.2.1 (pc + 1 + 1 + 1) = .ok (.iadd, 1)) (h4 : decode M_law.2.1 (pc + 1 + 1 + 1 + 1) = .ok (.iaload, 1)) (hk : k + 6 ≤ L) (hL : L ≤ 3072) (kk : xT G M_law (zQ b L xs) (pc + 1 + 1 + 1 + 1 + 1) (zLV G b k) (.int (xs (k + 2)) :: st) I J) : xT G M_law (zQ b L xs) pc (zLV G b k) st I J := by
  refine xr_aload0 h0 rfl ?_
  refine xr_iload3 h1 rfl ?_
  refine xr_ic2 h2 ?_
  refine xr_iadd h3 ?_
  exact zr_sld (k + 2) h4 (nI_add k 2) (by omega) (by omega) kk
theorem zr_a3 {k : Nat} (h0 : decode M_law.2.1 pc = .ok (.aload_n 0, 1)) (h1 : decode M_law.2.1 (pc + 1) = .ok (.iload_n 3, 1)) (h2 : decode M_law.2.1 (pc + 1 + 1) = .ok (.iconst 3, 1)) (h3 : decode M_law.2.1 (pc + 1 + 1 + 1) = .ok (.iadd, 1)) (h4 : decode M_law.2.1 (pc + 1 + 1 + 1 + 1) = .ok (.iaload, 1)) (hk : k + 6 ≤ L) (hL : L ≤ 3072) (kk : xT G M_law (zQ b L xs) (pc + 1 + 1 + 1 + 1 + 1) (zLV G b k) (.int (xs (k + 3)) :: st) I J) : xT G M_law (zQ b L xs) pc (zLV G b k) st I J := by
  refine xr_aload0 h0 rfl ?_
  refine xr_iload3 h1 rfl ?_
  refine xr_ic3 h2 ?_
  refine xr_iadd h3 ?_
  exact zr_sld (k + 3) h4 (nI_add k 3) (by omega) (by omega) kk
theorem zr_a4 {k : Nat} (h0 : decode M_law.2.1 pc = .ok (.aload_n 0, 1)) (h1 : decode M_law.2.1 (pc + 1) = .ok (.iload_n 3, 1)) (h2 : decode M_law.2.1 (pc + 1 + 1) = .ok (.iconst 4, 1)) (h3 : decode M_law.2.1 (pc + 1 + 1 + 1) = .ok (.iadd, 1)) (h4 : decode M_law.2.1 (pc + 1 + 1 + 1 + 1) = .ok (.iaload, 1)) (hk : k + 6 ≤ L) (hL : L ≤ 3072) (kk : xT G M_law (zQ b L xs) (pc + 1 + 1 + 1 + 1 + 1) (zLV G b k) (.int (xs (k + 4)) :: st) I J) : xT G M_law (zQ b L xs) pc (zLV G b k) st I J := by
  refine xr_aload0 h0 rfl ?_
  refine xr_iload3 h1 rfl ?_
  refine xr_ic4 h2 ?_
  refine xr_iadd h3 ?_
  exact zr_sld (k + 4) h4 (nI_add k 4) (by omega) (by omega) kk
theorem zr_a5 {k : Nat} (h0 : decode M_law.2.1 pc = .ok (.aload_n 0, 1)) (h1 : decode M_law.2.1 (pc + 1) = .ok (.iload_n 3, 1)) (h2 : decode M_law.2.1 (pc + 1 + 1) = .ok (.iconst 5, 1)) (h3 : decode M_law.2.1 (pc + 1 + 1 + 1) = .ok (.iadd, 1)) (h4 : decode M_law.2.1 (pc + 1 + 1 + 1 + 1) = .ok (.iaload, 1)) (hk : k + 6 ≤ L) (hL : L ≤ 3072) (kk : xT G M_law (zQ b L xs) (pc + 1 + 1 + 1 + 1 + 1) (zLV G b k) (.int (xs (k + 5)) :: st) I J) : xT G M_law (zQ b L xs) pc (zLV G b k) st I J := by
  refine xr_aload0 h0 rfl ?_
  refine xr_iload3 h1 rfl ?_
  refine xr_ic5 h2 ?_
  refine xr_iadd h3 ?_
  exact zr_sld (k + 5) h4 (nI_add k 5) (by omega) (by omega) kk
end C3
theorem ml_L_13 : Cond.methodLink RL 13 yX8_sheet ∈ xw := xt 330 (by decide +kernel) rfl
theorem ml_L_18 : Cond.methodLink RL 18 yX8_cell ∈ xw := xt 344 (by decide +kernel) rfl
theorem ml_L_22 : Cond.methodLink RL 22 yX8_told ∈ xw := xt 356 (by decide +kernel) rfl
theorem ml_L_27 : Cond.methodLink RL 27 yX8_lose ∈ xw := xt 361 (by decide +kernel) rfl
theorem ml_L_32 : Cond.methodLink RL 32 yX8_letters ∈ xw := xt 365 (by decide +kernel) rfl
theorem ml_L_36 : Cond.methodLink RL 36 yX8_state ∈ xw := xt 413 (by decide +kernel) rfl
theorem ml_L_40 : Cond.methodLink RL 40 yX8_change ∈ xw := xt 436 (by decide +kernel) rfl
theorem ml_L_45 : Cond.methodLink RL 45 yX8_of ∈ xw := xt 459 (by decide +kernel) rfl
theorem ml_L_49 : Cond.methodLink RL 49 yX8_many ∈ xw := xt 463 (by decide +kernel) rfl
theorem ml_L_53 : Cond.methodLink RL 53 yX8_put ∈ xw := xt 467 (by decide +kernel) rfl
theorem ml_L_58 : Cond.methodLink RL 58 yX8_wipe ∈ xw := xt 497 (by decide +kernel) rfl
theorem ml_L_62 : Cond.methodLink RL 62 yX8_size ∈ xw := xt 501 (by decide +kernel) rfl
theorem ml_L_66 : Cond.methodLink RL 66 yX8_token ∈ xw := xt 505 (by decide +kernel) rfl
theorem ml_L_70 : Cond.methodLink RL 70 yX8_times ∈ xw := xt 512 (by decide +kernel) rfl
theorem ml_L_74 : Cond.methodLink RL 74 yX8_turn ∈ xw := xt 516 (by decide +kernel) rfl
theorem ml_L_78 : Cond.methodLink RL 78 yX8_act ∈ xw := xt 524 (by decide +kernel) rfl
theorem ml_L_82 : Cond.methodLink RL 82 yX8_part ∈ xw := xt 546 (by decide +kernel) rfl
theorem ml_L_86 : Cond.methodLink RL 86 yX8_same ∈ xw := xt 550 (by decide +kernel) rfl
theorem ml_L_90 : Cond.methodLink RL 90 yX8_apart ∈ xw := xt 617 (by decide +kernel) rfl
theorem ml_L_94 : Cond.methodLink RL 94 yX8_heap ∈ xw := xt 637 (by decide +kernel) rfl
theorem ml_L_98 : Cond.methodLink RL 98 yX8_least ∈ xw := xt 641 (by decide +kernel) rfl
theorem ml_L_102 : Cond.methodLink RL 102 yX8_order ∈ xw := xt 645 (by decide +kernel) rfl
theorem ml_L_106 : Cond.methodLink RL 106 yX8_orbits ∈ xw := xt 685 (by decide +kernel) rfl
theorem ml_L_110 : Cond.methodLink RL 110 yX8_orbit ∈ xw := xt 698 (by decide +kernel) rfl
theorem ml_L_114 : Cond.methodLink RL 114 yX8_far ∈ xw := xt 716 (by decide +kernel) rfl
theorem ml_L_118 : Cond.methodLink RL 118 yX8_way ∈ xw := xt 720 (by decide +kernel) rfl
theorem ml_L_122 : Cond.methodLink RL 122 yX8_reach ∈ xw := xt 729 (by decide +kernel) rfl
theorem ml_L_126 : Cond.methodLink RL 126 yX8_group ∈ xw := xt 733 (by decide +kernel) rfl
theorem ml_L_130 : Cond.methodLink RL 130 yX8_growth ∈ xw := xt 762 (by decide +kernel) rfl
theorem ml_L_134 : Cond.methodLink RL 134 yX8_laws ∈ xw := xt 792 (by decide +kernel) rfl
theorem ml_L_138 : Cond.methodLink RL 138 yX8_law ∈ xw := xt 805 (by decide +kernel) rfl
theorem ml_L_142 : Cond.methodLink RL 142 yX8_fall ∈ xw := xt 814 (by decide +kernel) rfl
theorem ml_L_146 : Cond.methodLink RL 146 yX8_fallen ∈ xw := xt 837 (by decide +kernel) rfl
theorem ml_L_17 : Cond.methodLink RL 17 yX9_sheet ∈ xw := xt 975 (by decide +kernel) rfl
theorem ml_L_21 : Cond.methodLink RL 21 yX9_cell ∈ xw := xt 987 (by decide +kernel) rfl
theorem ml_L_26 : Cond.methodLink RL 26 yX9_told ∈ xw := xt 991 (by decide +kernel) rfl
theorem ml_L_31 : Cond.methodLink RL 31 yX9_lose ∈ xw := xt 996 (by decide +kernel) rfl
theorem ml_L_35 : Cond.methodLink RL 35 yX9_letters ∈ xw := xt 1000 (by decide +kernel) rfl
theorem ml_L_39 : Cond.methodLink RL 39 yX9_state ∈ xw := xt 1005 (by decide +kernel) rfl
theorem ml_L_44 : Cond.methodLink RL 44 yX9_change ∈ xw := xt 1011 (by decide +kernel) rfl
theorem ml_L_48 : Cond.methodLink RL 48 yX9_of ∈ xw := xt 1023 (by decide +kernel) rfl
theorem ml_L_52 : Cond.methodLink RL 52 yX9_many ∈ xw := xt 1027 (by decide +kernel) rfl
theorem ml_L_57 : Cond.methodLink RL 57 yX9_put ∈ xw := xt 1039 (by decide +kernel) rfl
theorem ml_L_61 : Cond.methodLink RL 61 yX9_wipe ∈ xw := xt 1054 (by decide +kernel) rfl
theorem ml_L_65 : Cond.methodLink RL 65 yX9_size ∈ xw := xt 1058 (by decide +kernel) rfl
theorem ml_L_69 : Cond.methodLink RL 69 yX9_token ∈ xw := xt 1062 (by decide +kernel) rfl
theorem ml_L_73 : Cond.methodLink RL 73 yX9_times ∈ xw := xt 1066 (by decide +kernel) rfl
theorem ml_L_77 : Cond.methodLink RL 77 yX9_turn ∈ xw := xt 1070 (by decide +kernel) rfl
theorem ml_L_81 : Cond.methodLink RL 81 yX9_act ∈ xw := xt 1074 (by decide +kernel) rfl
theorem ml_L_85 : Cond.methodLink RL 85 yX9_part ∈ xw := xt 1094 (by decide +kernel) rfl
theorem ml_L_89 : Cond.methodLink RL 89 yX9_same ∈ xw := xt 1106 (by decide +kernel) rfl
theorem ml_L_93 : Cond.methodLink RL 93 yX9_apart ∈ xw := xt 1146 (by decide +kernel) rfl
theorem ml_L_97 : Cond.methodLink RL 97 yX9_heap ∈ xw := xt 1154 (by decide +kernel) rfl
theorem ml_L_101 : Cond.methodLink RL 101 yX9_least ∈ xw := xt 1158 (by decide +kernel) rfl
theorem ml_L_105 : Cond.methodLink RL 105 yX9_order ∈ xw := xt 1162 (by decide +kernel) rfl
theorem ml_L_109 : Cond.methodLink RL 109 yX9_orbits ∈ xw := xt 1186 (by decide +kernel) rfl
theorem ml_L_113 : Cond.methodLink RL 113 yX9_orbit ∈ xw := xt 1195 (by decide +kernel) rfl
theorem ml_L_117 : Cond.methodLink RL 117 yX9_far ∈ xw := xt 1207 (by decide +kernel) rfl
theorem ml_L_121 : Cond.methodLink RL 121 yX9_way ∈ xw := xt 1215 (by decide +kernel) rfl
theorem ml_L_125 : Cond.methodLink RL 125 yX9_reach ∈ xw := xt 1224 (by decide +kernel) rfl
theorem ml_L_129 : Cond.methodLink RL 129 yX9_group ∈ xw := xt 1229 (by decide +kernel) rfl
theorem ml_L_133 : Cond.methodLink RL 133 yX9_growth ∈ xw := xt 1243 (by decide +kernel) rfl
theorem ml_L_137 : Cond.methodLink RL 137 yX9_laws ∈ xw := xt 1252 (by decide +kernel) rfl
theorem ml_L_141 : Cond.methodLink RL 141 yX9_law ∈ xw := xt 1260 (by decide +kernel) rfl
theorem ml_L_145 : Cond.methodLink RL 145 yX9_fall ∈ xw := xt 1264 (by decide +kernel) rfl
theorem ml_L_149 : Cond.methodLink RL 149 yX9_fallen ∈ xw := xt 1280 (by decide +kernel) rfl
