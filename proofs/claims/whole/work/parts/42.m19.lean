section M19
variable {G : xG} {I : xI} {J : xJ}
theorem c9_isParted {M : xMac} {hs : List (List Nat)} (hl : hs.length ≤ 200) (hmd : mHd I M hs hs.length) {n : Nat} (hn : n ≤ 14) (hca : mCa I M hs n) (hK4 : mK M ≤ 4) {g k x : Nat} (hg : g < hs.length) (hk : k < hs.length) (hx : x < mK M) (hout : ∀ a ∈ hs, ∀ x, x < mK M → wout M a x < 4) : xCon G M_X9_isParted [.ref (G.1 77), .int (nI g), .int (nI k), .int (nI x), .int (nI (n + 1))] I J (xpi fun v I' J' => v = b2 (!(wout M hs[g] x == wout M hs[k] x && wE M n (wpart M hs[g] x) (wpart M hs[k] x))) ∧ I = I' ∧ J = J') := by
  obtain ⟨c, c1, c2⟩ := hca
  obtain ⟨o1, j1, n1, a1⟩ := hmd g hg hg x hx
  obtain ⟨o2, j2, n2, a2⟩ := hmd k hk hk x hx
  have hj1 := (List.getElem?_eq_some_iff.mp a1).1
  have hj2 := (List.getElem?_eq_some_iff.mp a2).1
  have w1 := hout _ (List.getElem_mem hg) x hx
  have w2 := hout _ (List.getElem_mem hk) x hx
  have q1 : I 95 (201 * n + j1) = nI (c j1) ∧ c j1 < _ := c1 j1 hj1
  have q2 : I 95 (201 * n + j2) = nI (c j2) ∧ c j2 < _ := c1 j2 hj2
  have hcnt := cnt_le (wFst M hs n) hs.length
  have ei : (201 * (nI (n + 1) - 1) : Int32) = nI (201 * n) := by rw [k_1, pk_sub (by omega), Nat.add_sub_cancel, k_201, pk_mul]
  refine x_ent (by decide) (Nat.le_of_ble_eq_true rfl) rfl ?_
  show xT _ _ _ 0 [_, _, _, _, _, _] _ _ _
  refine xr_aload0 dX9_isParted_0 rfl ?_
  refine xr_getR dX9_isParted_1 fk_9_54 lay_77 rfl ?_
  refine xr_ic4 dX9_isParted_4 ?_
  refine xr_iload1 dX9_isParted_5 rfl ?_
  refine xr_imul dX9_isParted_6 ?_
  refine xr_iload3 dX9_isParted_7 rfl ?_
  refine xr_iadd dX9_isParted_8 ?_
  refine xr_ialdv _ dX9_isParted_9 lay_91 (by (try simp only [k_0, k_1, k_2, k_3, k_4, k_5, k_8, k_16, k_34, k_40, k_200, k_201, k_256, k_512, nI_add, pk_mul]); first | done | rfl) (by omega) (by decide) o1 ?_
  show xT _ _ _ 10 _ _ _ _
  refine xr_aload0 dX9_isParted_10 rfl ?_
  refine xr_getR dX9_isParted_11 fk_9_54 lay_77 rfl ?_
  refine xr_ic4 dX9_isParted_14 ?_
  refine xr_iload2 dX9_isParted_15 rfl ?_
  refine xr_imul dX9_isParted_16 ?_
  refine xr_iload3 dX9_isParted_17 rfl ?_
  refine xr_iadd dX9_isParted_18 ?_
  refine xr_ialdv _ dX9_isParted_19 lay_91 (by (try simp only [k_0, k_1, k_2, k_3, k_4, k_5, k_8, k_16, k_34, k_40, k_200, k_201, k_256, k_512, nI_add, pk_mul]); first | done | rfl) (by omega) (by decide) o2 ?_
  show xT _ _ _ 20 _ _ _ _
  refine xr_icmp_eq 25 dX9_isParted_20 (by decide) (fun he => ?_) (fun he => ?_)
  rotate_left
  · have hne : ¬ wout M hs[g] x = wout M hs[k] x := fun q => he (by rw [q])
    refine xr_ic1 dX9_isParted_23 ?_
    refine xr_zret dX9_isParted_24 rfl rfl (by simp) ⟨by rw [show (wout M hs[g] x == wout M hs[k] x) = false by simpa using hne]; rfl, rfl, rfl⟩
  have heq : wout M hs[g] x = wout M hs[k] x := (nI_eq (by omega) (by omega)).mp he
  refine xr_sip si_201 dX9_isParted_25 ?_
  refine xr_iload dX9_isParted_28 rfl ?_
  refine xr_ic1 dX9_isParted_30 ?_
  refine xr_isub dX9_isParted_31 ?_
  refine xr_imul dX9_isParted_32 ?_
  rw [ei]
  refine xr_istore dX9_isParted_33 (Nat.le_of_ble_eq_true rfl) ?_
  show xT _ _ _ 35 [_, _, _, _, _, _] _ _ _
  refine xr_aload0 dX9_isParted_35 rfl ?_
  refine xr_getR dX9_isParted_36 fk_9_66 lay_77 rfl ?_
  refine xr_iload dX9_isParted_39 rfl ?_
  refine xr_aload0 dX9_isParted_41 rfl ?_
  refine xr_getR dX9_isParted_42 fk_9_57 lay_77 rfl ?_
  refine xr_ic4 dX9_isParted_45 ?_
  refine xr_iload1 dX9_isParted_46 rfl ?_
  show xT _ _ _ 47 _ _ _ _
  refine xr_imul dX9_isParted_47 ?_
  refine xr_iload3 dX9_isParted_48 rfl ?_
  refine xr_iadd dX9_isParted_49 ?_
  refine xr_ialdv _ dX9_isParted_50 lay_92 (by (try simp only [k_0, k_1, k_2, k_3, k_4, k_5, k_8, k_16, k_34, k_40, k_200, k_201, k_256, k_512, nI_add, pk_mul]); first | done | rfl) (by omega) (by decide) n1 ?_
  refine xr_iadd dX9_isParted_51 ?_
  refine xr_ialdv (201 * n + j1) dX9_isParted_52 lay_95 (by simp only [nI_add]) (by omega) (by decide) q1.1 ?_
  refine xr_aload0 dX9_isParted_53 rfl ?_
  refine xr_getR dX9_isParted_54 fk_9_66 lay_77 rfl ?_
  show xT _ _ _ 57 _ _ _ _
  refine xr_iload dX9_isParted_57 rfl ?_
  refine xr_aload0 dX9_isParted_59 rfl ?_
  refine xr_getR dX9_isParted_60 fk_9_57 lay_77 rfl ?_
  refine xr_ic4 dX9_isParted_63 ?_
  refine xr_iload2 dX9_isParted_64 rfl ?_
  refine xr_imul dX9_isParted_65 ?_
  refine xr_iload3 dX9_isParted_66 rfl ?_
  refine xr_iadd dX9_isParted_67 ?_
  show xT _ _ _ 68 _ _ _ _
  refine xr_ialdv _ dX9_isParted_68 lay_92 (by (try simp only [k_0, k_1, k_2, k_3, k_4, k_5, k_8, k_16, k_34, k_40, k_200, k_201, k_256, k_512, nI_add, pk_mul]); first | done | rfl) (by omega) (by decide) n2 ?_
  refine xr_iadd dX9_isParted_69 ?_
  refine xr_ialdv (201 * n + j2) dX9_isParted_70 lay_95 (by simp only [nI_add]) (by omega) (by decide) q2.1 ?_
  have hiff : c j1 = c j2 ↔ wEqn M n (wpart M hs[g] x) (wpart M hs[k] x) := by
    have := c2 j1 j2 hj1 hj2
    rw [getD_at a1, getD_at a2] at this
    exact this
  refine xr_icmp_eq 78 dX9_isParted_71 (by decide) (fun he2 => ?_) (fun he2 => ?_)
  · have he2 : c j1 = c j2 := (nI_eq (by omega) (by omega)).mp he2
    refine xr_ic0 dX9_isParted_78 ?_
    refine xr_zret dX9_isParted_79 rfl rfl (by simp) ⟨by rw [wE_iff.mpr (hiff.mp he2)]; simp [heq, b2], rfl, rfl⟩
  · have hne : wE M n (wpart M hs[g] x) (wpart M hs[k] x) = false := by
      cases hq : wE M n (wpart M hs[g] x) (wpart M hs[k] x) with
      | false => rfl
      | true => exact absurd (by rw [hiff.mpr (wE_iff.mp hq)]) he2
    refine xr_ic1 dX9_isParted_74 ?_
    refine xr_goto 79 dX9_isParted_75 (by decide) ?_
    refine xr_zret dX9_isParted_79 rfl rfl (by simp) ⟨by rw [hne]; simp [b2], rfl, rfl⟩
/-- the letter that parts is found -/
theorem apX_at {M : xMac} {n : Nat} {a b : List Nat} (h : ¬ wEqn M (n + 1) a b) : apX M n a b < mK M ∧ (!(wout M a (apX M n a b) == wout M b (apX M n a b) && wE M n (wpart M a (apX M n a b)) (wpart M b (apX M n a b)))) = true ∧ ∀ y, y < apX M n a b → (!(wout M a y == wout M b y && wE M n (wpart M a y) (wpart M b y))) = false := by
  unfold apX
  cases hc : (List.range (mK M)).find? (fun x => !(wout M a x == wout M b x && wE M n (wpart M a x) (wpart M b x))) with
  | none =>
    exfalso
    apply h
    intro x hx
    have := List.find?_eq_none.mp hc x (List.mem_range.mpr hx)
    simp only [Bool.not_eq_true', Bool.not_eq_false, Bool.and_eq_true, beq_iff_eq] at this
    exact ⟨this.1, wE_iff.mp this.2⟩
  | some x =>
    refine ⟨List.mem_range.mp (List.mem_of_find?_eq_some hc), (by have := List.find?_some hc; exact this), fun y hy => ?_⟩
    have hxk := List.mem_range.mp (List.mem_of_find?_eq_some hc)
    rw [List.find?_eq_some_iff_append] at hc
    obtain ⟨-, as, bs, e, hall⟩ := hc
    have hy : y < x := hy
    have hyas : y ∈ as := by
      have hlen : as.length = x := by
        have h1 : (List.range (mK M))[as.length]? = some x := by rw [e]; simp
        rw [List.getElem?_range (by
          have := (List.getElem?_eq_some_iff.mp h1).1
          simpa using this)] at h1
        exact Option.some.inj h1
      have h2 : (List.range (mK M))[y]? = some y := List.getElem?_range (by omega)
      rw [e, List.getElem?_append_left (by omega)] at h2
      exact List.mem_of_getElem? h2
    have := hall y hyas
    simpa using this
theorem c9_apart {S : xSt} (a b : Int32) (h : mIv I S) : xCon G M_X9_apart [.ref (G.1 77), .int a, .int b] I J (xpi fun v I' J' => v = sp_apart S a b ∧ mIv I' S ∧ mfr I J I' J') := by
  refine x_ent (by decide) (Nat.le_of_ble_eq_true rfl) rfl ?_
  show xT _ _ _ 0 [_, _, _, _, _, _, _, _, _, _] _ _ _
  refine xr_aload0 dX9_apart_0 rfl ?_
  refine xr_iload1 dX9_apart_1 rfl ?_
  refine xr_iload2 dX9_apart_2 rfl ?_
  refine xr_cVi [_, _] dX9_apart_3 (xcv_of cf_X9_takeTwo ml_9_215 (by decide)) rfl lay_77 rfl rfl rfl (Nat.le_of_ble_eq_true rfl) (c9_takeTwo a b h) (fun v I1 J1 hc => ?_)
  obtain ⟨rfl, h2, hI1, hf1⟩ := hc
  refine xr_istore3 dX9_apart_6 (Nat.le_of_ble_eq_true rfl) ?_
  show xT _ _ _ 7 [_, _, _, _, _, _, _, _, _, _] _ _ _
  refine xr_iload3 dX9_apart_7 rfl ?_
  refine xr_if_eq 13 dX9_apart_8 (by decide) (fun hz => ?_) (fun hz => ?_)
  rotate_left
  · skip
    refine xr_iload3 dX9_apart_11 rfl ?_
    refine xr_iret dX9_apart_12 rfl rfl ⟨by rw [sp_apart, if_neg hz], hI1, hf1⟩
  obtain ⟨hwh, hs, i, j, H1, g1, hl, md, z26, ai, z27, aj, hp, -, ca⟩ := h2 hz
  have hi := (List.getElem?_eq_some_iff.mp ai).1
  have hj := (List.getElem?_eq_some_iff.mp aj).1
  have hK4 := h.2.1.1.2.1
  have hout : ∀ a ∈ hs, ∀ x, x < mK S.2.1 → wout S.2.1 a x < 4 := fun a ha x hx => by have := wout_lt h.2.1.1 hwh (g1.2 a ha).2.2 hx; omega
  generalize hwa : xsp S a = wa at ai aj hp
  generalize hwb : xsp S b = wb at ai aj hp
  have e : sp_apart S a b = (match apN S.2.1 wa wb 14 0 with
    | none => -8
    | some n => nI (apRow S.2.1 n wa wb 1)) := by rw [sp_apart, if_pos hz, hwa, hwb]; cases apN S.2.1 wa wb 14 0 <;> rfl
  rw [hz]
  -- along the letters
  have L2 : ∀ n, n ≤ 14 → ∀ n0 g k num (z9 : Option Value) (wg wk : List Nat), hs[g]? = some wg → hs[k]? = some wk → (n = 0 ∨ ¬ wEqn S.2.1 n wg wk) → (∀ m, m < n → wEqn S.2.1 m wg wk) → sp_apart S a b = nI (apRow S.2.1 n wg wk num) → xT G M_X9_apart (xMQ G (xpi fun v I' J' => v = sp_apart S a b ∧ mIv I' S ∧ mfr I J I' J')) 93 [some (.ref (G.1 77)), some (.int a), some (.int b), some (.int 0), some (.int (nI n0)), some (.int (nI g)), some (.int (nI k)), some (.int (nI num)), some (.int (nI n)), z9] [] I1 J1 := by
    intro n
    induction n with
    | zero =>
      intro _ n0 g k num z9 wg wk ag ak _ _ he
      refine xr_iload dX9_apart_93 rfl ?_
      refine xr_if_le 165 dX9_apart_95 (by decide) (fun hle => ?_) (fun hle => ?_)
      rotate_left
      · exact absurd (by decide) hle
      refine xr_iload dX9_apart_165 rfl ?_
      refine xr_iret dX9_apart_167 rfl rfl ⟨he.symm, hI1, hf1⟩
    | succ n IH =>
      intro hn n0 g k num z9 wg wk ag ak hne hmin he
      have hg := (List.getElem?_eq_some_iff.mp ag).1
      have hk := (List.getElem?_eq_some_iff.mp ak).1
      have eg : hs[g] = wg := (List.getElem?_eq_some_iff.mp ag).2
      have ek : hs[k] = wk := (List.getElem?_eq_some_iff.mp ak).2
      have hne : ¬ wEqn S.2.1 (n + 1) wg wk := hne.resolve_left (by omega)
      obtain ⟨x1, x2, x3⟩ := apX_at hne
      generalize hX : apX S.2.1 n wg wk = X at x1 x2 x3
      refine xr_iload dX9_apart_93 rfl ?_
      refine xr_if_le 165 dX9_apart_95 (by decide) (fun hle => ?_) (fun hle => ?_)
      · exact absurd hle (nI_nle (by omega) (by omega))
      refine xr_ic0 dX9_apart_98 ?_
      refine xr_istore dX9_apart_99 (Nat.le_of_ble_eq_true rfl) ?_
      show xT _ _ _ 101 [_, _, _, _, _, _, _, _, _, _] _ _ _
      have L3 : ∀ x, x ≤ X → xT G M_X9_apart (xMQ G (xpi fun v I' J' => v = sp_apart S a b ∧ mIv I' S ∧ mfr I J I' J')) 101 [some (.ref (G.1 77)), some (.int a), some (.int b), some (.int 0), some (.int (nI n0)), some (.int (nI g)), some (.int (nI k)), some (.int (nI num)), some (.int (nI (n + 1))), some (.int (nI x))] [] I1 J1 := by
        refine x_for (fun x hx IH3 => ?_)
        refine xr_aload0 dX9_apart_101 rfl ?_
        refine xr_iload dX9_apart_102 rfl ?_
        refine xr_iload dX9_apart_104 rfl ?_
        refine xr_iload dX9_apart_106 rfl ?_
        refine xr_iload dX9_apart_108 rfl ?_
        refine xr_cVi [_, _, _, _] dX9_apart_110 (xcv_of cf_X9_isParted ml_9_219 (by decide)) rfl lay_77 rfl rfl rfl (Nat.le_of_ble_eq_true rfl) (c9_isParted hl md (by omega) (ca n (by omega)) hK4 hg hk (show x < mK S.2.1 by omega) hout) (fun v I2 J2 hc2 => ?_)
        obtain ⟨rfl, rfl, rfl⟩ := hc2
        rw [eg, ek]
        by_cases hxX : x = X
        · subst hxX
          rw [x2]
          refine xr_if_ne 122 dX9_apart_113 (by decide) (fun hp2 => ?_) (fun hp2 => ?_)
          rotate_left
          · exact absurd hp2 (by decide)
          obtain ⟨-, j1, n1, a1⟩ := md g hg hg x x1
          obtain ⟨-, j2, n2, a2⟩ := md k hk hk x x1
          rw [eg] at a1
          rw [ek] at a2
          refine xr_ic4 dX9_apart_122 ?_
          refine xr_iload dX9_apart_123 rfl ?_
          refine xr_imul dX9_apart_125 ?_
          refine xr_iload dX9_apart_126 rfl ?_
          refine xr_iadd dX9_apart_128 ?_
          refine xr_istore dX9_apart_129 (Nat.le_of_ble_eq_true rfl) ?_
          show xT _ _ _ 131 [_, _, _, _, _, _, _, _, _, _] _ _ _
          refine xr_aload0 dX9_apart_131 rfl ?_
          refine xr_getR dX9_apart_132 fk_9_57 lay_77 rfl ?_
          show xT _ _ _ 135 _ _ _ _
          refine xr_ic4 dX9_apart_135 ?_
          refine xr_iload dX9_apart_136 rfl ?_
          refine xr_imul dX9_apart_138 ?_
          refine xr_iload dX9_apart_139 rfl ?_
          refine xr_iadd dX9_apart_141 ?_
          refine xr_ialdv _ dX9_apart_142 lay_92 (by (try simp only [k_0, k_1, k_2, k_3, k_4, k_5, k_8, k_16, k_34, k_40, k_200, k_201, k_256, k_512, nI_add, pk_mul]); first | done | rfl) (by omega) (by decide) n1 ?_
          refine xr_istore dX9_apart_143 (Nat.le_of_ble_eq_true rfl) ?_
          show xT _ _ _ 145 [_, _, _, _, _, _, _, _, _, _] _ _ _
          refine xr_aload0 dX9_apart_145 rfl ?_
          show xT _ _ _ 146 _ _ _ _
          refine xr_getR dX9_apart_146 fk_9_57 lay_77 rfl ?_
          refine xr_ic4 dX9_apart_149 ?_
          refine xr_iload dX9_apart_150 rfl ?_
          refine xr_imul dX9_apart_152 ?_
          refine xr_iload dX9_apart_153 rfl ?_
          refine xr_iadd dX9_apart_155 ?_
          refine xr_ialdv _ dX9_apart_156 lay_92 (by (try simp only [k_0, k_1, k_2, k_3, k_4, k_5, k_8, k_16, k_34, k_40, k_200, k_201, k_256, k_512, nI_add, pk_mul]); first | done | rfl) (by omega) (by decide) n2 ?_
          refine xr_istore dX9_apart_157 (Nat.le_of_ble_eq_true rfl) ?_
          show xT _ _ _ 159 [_, _, _, _, _, _, _, _, _, _] _ _ _
          show xT _ _ _ 159 _ _ _ _
          refine xr_iinc dX9_apart_159 rfl ii_m1 (Nat.le_of_ble_eq_true rfl) ?_
          show xT _ _ _ 162 [_, _, _, _, _, _, _, _, _, _] _ _ _
          refine xr_goto 93 dX9_apart_162 (by decide) ?_
          simp only [k_4, pk_mul, nI_add]
          rw [show nI (n + 1) + -1 = nI n by rw [← nI_1]; grind]
          refine IH (by omega) n0 j1 j2 (4 * num + x) _ _ _ a1 a2 ?_ (fun m hm => ((hmin (m + 1) (by omega)) x x1).2) ?_
          · cases n with
            | zero => exact Or.inl rfl
            | succ n =>
              right
              intro q
              have hw := (hmin (n + 1) (by omega) x x1).1
              rw [wE_iff.mpr q] at x2
              simp [hw] at x2
          · rw [he]
            show nI (apRow S.2.1 n (wpart S.2.1 wg (apX S.2.1 n wg wk)) (wpart S.2.1 wk (apX S.2.1 n wg wk)) (4 * num + apX S.2.1 n wg wk)) = _
            rw [hX]
        · have hlt : x < X := by omega
          have IH3 := IH3 hlt
          rw [x3 x hlt]
          refine xr_if_ne 122 dX9_apart_113 (by decide) (fun hp2 => ?_) (fun hp2 => ?_)
          · exact absurd rfl hp2
          refine xr_iinc dX9_apart_116 rfl ii_1 (Nat.le_of_ble_eq_true rfl) ?_
          show xT _ _ _ 119 [_, _, _, _, _, _, _, _, _, _] _ _ _
          refine xr_goto 101 dX9_apart_119 (by decide) ?_
          rw [k_1, nI_add]
          exact IH3
      exact L3 0 (Nat.zero_le _)
  -- how many letters
  have L1 : ∀ n, n ≤ 15 → ∀ (z5 z6 z7 z8 z9 : Option Value), (n ≤ 14 → apN S.2.1 wa wb 14 0 = apN S.2.1 wa wb (14 - n) n) → (n = 15 → apN S.2.1 wa wb 14 0 = none) → (∀ m, m < n → wEqn S.2.1 m wa wb) → xT G M_X9_apart (xMQ G (xpi fun v I' J' => v = sp_apart S a b ∧ mIv I' S ∧ mfr I J I' J')) 16 [some (.ref (G.1 77)), some (.int a), some (.int b), some (.int 0), some (.int (nI n)), z5, z6, z7, z8, z9] [] I1 J1 := by
    refine x_for (fun n hn IH z5 z6 z7 z8 z9 h14 h15 hmin => ?_)
    refine xr_iload dX9_apart_16 rfl ?_
    refine xr_bip bi_14 dX9_apart_18 ?_
    refine xr_icmp_gt 64 dX9_apart_20 (by decide) (fun hgt => ?_) (fun hgt => ?_)
    · have hgt : 14 < n := nltl (a := 14) hgt
      have : n = 15 := by omega
      refine xr_iload dX9_apart_64 rfl ?_
      refine xr_bip bi_14 dX9_apart_66 ?_
      refine xr_icmp_le 74 dX9_apart_68 (by decide) (fun hle => ?_) (fun hle => ?_)
      · have : n ≤ 14 := nle (a := 14) (b := n) hle
        omega
      refine xr_bip bi_m8 dX9_apart_71 ?_
      refine xr_iret dX9_apart_73 rfl rfl ⟨by rw [e, h15 this], hI1, hf1⟩
    · have hgt : n ≤ 14 := nnlt (a := 14) hgt
      have h14 := h14 hgt
      obtain ⟨c, c1, c2⟩ := ca n hgt
      have q1 : I1 95 (201 * n + i) = nI (c i) ∧ c i < _ := c1 i hi
      have q2 : I1 95 (201 * n + j) = nI (c j) ∧ c j < _ := c1 j hj
      have hcnt := cnt_le (wFst S.2.1 hs n) hs.length
      have hiff : c i = c j ↔ wEqn S.2.1 n wa wb := by
        have := c2 i j hi hj
        rw [getD_at ai, getD_at aj] at this
        exact this
      refine xr_aload0 dX9_apart_23 rfl ?_
      refine xr_getR dX9_apart_24 fk_9_66 lay_77 rfl ?_
      refine xr_sip si_201 dX9_apart_27 ?_
      refine xr_iload dX9_apart_30 rfl ?_
      refine xr_imul dX9_apart_32 ?_
      refine xr_aload0 dX9_apart_33 rfl ?_
      refine xr_getIv dX9_apart_34 fk_9_203 lay_77 rfl z26 ?_
      refine xr_iadd dX9_apart_37 ?_
      show xT _ _ _ 38 _ _ _ _
      refine xr_ialdv _ dX9_apart_38 lay_95 (by (try simp only [k_0, k_1, k_2, k_3, k_4, k_5, k_8, k_16, k_34, k_40, k_200, k_201, k_256, k_512, nI_add, pk_mul]); first | done | rfl) (by omega) (by decide) q1.1 ?_
      refine xr_aload0 dX9_apart_39 rfl ?_
      refine xr_getR dX9_apart_40 fk_9_66 lay_77 rfl ?_
      refine xr_sip si_201 dX9_apart_43 ?_
      refine xr_iload dX9_apart_46 rfl ?_
      refine xr_imul dX9_apart_48 ?_
      refine xr_aload0 dX9_apart_49 rfl ?_
      refine xr_getIv dX9_apart_50 fk_9_206 lay_77 rfl z27 ?_
      show xT _ _ _ 53 _ _ _ _
      refine xr_iadd dX9_apart_53 ?_
      refine xr_ialdv _ dX9_apart_54 lay_95 (by (try simp only [k_0, k_1, k_2, k_3, k_4, k_5, k_8, k_16, k_34, k_40, k_200, k_201, k_256, k_512, nI_add, pk_mul]); first | done | rfl) (by omega) (by decide) q2.1 ?_
      refine xr_icmp_ne 64 dX9_apart_55 (by decide) (fun hne => ?_) (fun hne => ?_)
      · have hne : ¬ wEqn S.2.1 n wa wb := fun q => hne (by rw [hiff.mpr q])
        have hwE : wE S.2.1 n wa wb = false := by
          cases hq : wE S.2.1 n wa wb with
          | false => rfl
          | true => exact absurd (wE_iff.mp hq) hne
        have h3 : apN S.2.1 wa wb 14 0 = some n := by
          rw [h14]
          cases (14 - n) <;> simp [apN, hwE]
        refine xr_iload dX9_apart_64 rfl ?_
        refine xr_bip bi_14 dX9_apart_66 ?_
        refine xr_icmp_le 74 dX9_apart_68 (by decide) (fun hle => ?_) (fun hle => ?_)
        rotate_left
        · exact absurd ((nI_leI (a := n) (b := 14) (by omega) (by decide)).mpr hgt) hle
        refine xr_aload0 dX9_apart_74 rfl ?_
        refine xr_getIv dX9_apart_75 fk_9_203 lay_77 rfl z26 ?_
        refine xr_istore dX9_apart_78 (Nat.le_of_ble_eq_true rfl) ?_
        show xT _ _ _ 80 [_, _, _, _, _, _, _, _, _, _] _ _ _
        refine xr_aload0 dX9_apart_80 rfl ?_
        refine xr_getIv dX9_apart_81 fk_9_206 lay_77 rfl z27 ?_
        refine xr_istore dX9_apart_84 (Nat.le_of_ble_eq_true rfl) ?_
        show xT _ _ _ 86 [_, _, _, _, _, _, _, _, _, _] _ _ _
        refine xr_ic1 dX9_apart_86 ?_
        refine xr_istore dX9_apart_87 (Nat.le_of_ble_eq_true rfl) ?_
        show xT _ _ _ 89 [_, _, _, _, _, _, _, _, _, _] _ _ _
        show xT _ _ _ 89 _ _ _ _
        refine xr_iload dX9_apart_89 rfl ?_
        refine xr_istore dX9_apart_91 (Nat.le_of_ble_eq_true rfl) ?_
        show xT _ _ _ 93 [_, _, _, _, _, _, _, _, _, _] _ _ _
        have hn0 : n ≠ 0 := fun q => hne (by rw [q]; trivial)
        exact L2 n hgt n i j 1 _ wa wb ai aj (Or.inr hne) hmin (by rw [e, h3])
      · have heq : c i = c j := (nI_eq (by omega) (by omega)).mp hne
        have hw := hiff.mp heq
        have IH := IH (by omega)
        refine xr_iinc dX9_apart_58 rfl ii_1 (Nat.le_of_ble_eq_true rfl) ?_
        show xT _ _ _ 61 [_, _, _, _, _, _, _, _, _, _] _ _ _
        refine xr_goto 16 dX9_apart_61 (by decide) ?_
        rw [k_1, nI_add]
        refine IH _ _ _ _ _ (fun q => ?_) (fun q => ?_) (fun m hm => ?_)
        · rw [h14, show 14 - n = (14 - (n + 1)) + 1 by omega, apN, if_pos (wE_iff.mpr hw)]
        · rw [h14, show 14 - n = 0 by omega, apN, if_pos (wE_iff.mpr hw)]
        · by_cases em : m = n
          · subst em; exact hw
          · exact hmin m (by omega)
  refine xr_ic0 dX9_apart_13 ?_
  refine xr_istore dX9_apart_14 (Nat.le_of_ble_eq_true rfl) ?_
  show xT _ _ _ 16 [_, _, _, _, _, _, _, _, _, _] _ _ _
  exact L1 0 (by omega) _ _ _ _ _ (fun _ => rfl) (fun q => by omega) (fun m hm => by omega)
end M19
