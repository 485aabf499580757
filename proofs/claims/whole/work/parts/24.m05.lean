section M05
variable {G : xG} {I : xI} {J : xJ}
theorem c9_findTokens {M : xMac} (h : mMach I M) : xCon G M_X9_findTokens [.ref (G.1 77)] I J (xpv fun I' J' => mTk I' M ∧ mfx [85, 86] [11] I I' ∧ J = J') := by
  obtain ⟨⟨hK2, hK4, hN8, hok⟩, hK, hN, hwg⟩ := id h
  have L : ∀ s, s ≤ mN M → ∀ I1, I1 77 11 = nI (mMk M s).length → lrep (I1 86) 0 (mMk M s) tok → mfx [85, 86] [11] I I1 → xT G M_X9_findTokens (xMQ G (xpv fun I' J' => mTk I' M ∧ mfx [85, 86] [11] I I' ∧ J = J')) 7 [some (.ref (G.1 77)), some (.int (nI s))] [] I1 J := by
    refine x_for (fun s hs IH I1 h1 h2 h3 => ?_)
    have hN1 : I1 77 4 = nI (mN M) := (h3.2 4 (by decide)).trans hN
    have hlen := mMk_len M s
    refine xr_iload1 dX9_findTokens_7 rfl ?_
    refine xr_aload0 dX9_findTokens_8 rfl ?_
    refine xr_getIv dX9_findTokens_9 fk_9_116 lay_77 rfl hN1 ?_
    refine xr_icmp_ge 74 dX9_findTokens_12 (by decide) (fun hc => ?_) (fun hc => ?_)
    · have : s = mN M := by have := nle hc; omega
      subst this
      refine xr_vret dX9_findTokens_74 rfl rfl ⟨⟨h1, h2⟩, h3, rfl⟩
    · have hsN := nlt hc
      have IH := IH hsN
      refine xr_aload0 dX9_findTokens_15 rfl ?_
      refine xr_getR dX9_findTokens_16 fk_9_39 lay_77 rfl ?_
      refine xr_aload0 dX9_findTokens_19 rfl ?_
      refine xr_getIv dX9_findTokens_20 fk_9_127 lay_77 rfl h1 ?_
      refine xr_iload1 dX9_findTokens_23 rfl ?_
      refine xr_ic1 dX9_findTokens_24 ?_
      refine xr_iadd dX9_findTokens_25 ?_
      refine xr_iast _ dX9_findTokens_26 lay_86 rfl (by omega) (by decide) ?_
      show xT _ _ _ 27 _ _ _ _
      refine xr_aload0 dX9_findTokens_27 rfl ?_
      refine xr_dup dX9_findTokens_28 rfl ?_
      refine xr_getI dX9_findTokens_29 fk_9_127 lay_77 rfl ?_
      refine xr_ic1 dX9_findTokens_32 ?_
      refine xr_iadd dX9_findTokens_33 ?_
      refine xr_putI dX9_findTokens_34 fp_9_127 lay_77 rfl ?_
      refine xr_aload0 dX9_findTokens_37 rfl ?_
      rw [va_up_ne _ _ (show 77 ≠ 86 by decide), h1, k_1, nI_add, nI_add]
      have h2' := lrep.push h2 (2 * s) (v := nI (s + 1)) (tok_even s).symm
      rw [Nat.zero_add] at h2'
      generalize hI2 : va_up (va_up I1 86 (upd (I1 86) (mMk M s).length (nI (s + 1)))) 77 (upd (I1 77) 11 (nI ((mMk M s).length + 1))) = I2
      have g3 : mfx [85, 86] [11] I I2 := by
        rw [← hI2]
        have := (h3.up (k := 86) (upd (I1 86) (mMk M s).length (nI (s + 1))) (by decide) (by decide)).up7 (j := 11) (nI ((mMk M s).length + 1)) (by decide)
        rwa [va_up_ne _ _ (show 77 ≠ 86 by decide)] at this
      have g1 : I2 77 11 = nI ((mMk M s).length + 1) := by rw [← hI2, up_same, upd_same]
      have g2 : lrep (I2 86) 0 (mMk M s ++ [2 * s]) tok := by rw [← hI2, va_up_ne _ _ (by decide), up_same]; exact h2'
      refine xr_iload1 dX9_findTokens_38 rfl ?_
      refine xr_cVi [_] dX9_findTokens_39 (xcv_of cf_X9_isBack ml_9_124 (by decide)) rfl lay_77 rfl rfl rfl (Nat.le_of_ble_eq_true rfl) (c9_isBack (g3.mach h (by decide) (by decide)) (by omega)) (fun v I3 J3 hc1 => ?_)
      obtain ⟨rfl, ⟨f, rfl⟩, rfl⟩ := hc1
      have e3 : mfx [85, 86] [11] I (va_up I2 85 f) := g3.up f (by decide) (by decide)
      have e1 : va_up I2 85 f 77 11 = nI ((mMk M s).length + 1) := by rw [va_up_ne _ _ (by decide)]; exact g1
      have e2 : lrep (va_up I2 85 f 86) 0 (mMk M s ++ [2 * s]) tok := by rw [va_up_ne _ _ (by decide)]; exact g2
      refine xr_if_eq 68 dX9_findTokens_42 (by decide) (fun hb => ?_) (fun hb => ?_)
      · have hb := b2_0.mp hb
        refine xr_iinc dX9_findTokens_68 rfl ii_1 (Nat.le_of_ble_eq_true rfl) ?_
        show xT _ _ _ 71 [_, _] _ _ _
        refine xr_goto 7 dX9_findTokens_71 (by decide) ?_
        rw [k_1, nI_add]
        refine IH _ ?_ ?_ e3
        · rw [mMk_succ, hb]; simp only [if_neg (show ¬ false = true by decide), List.length_append, List.length_singleton]; exact e1
        · rw [mMk_succ, hb]; exact e2
      · have hb : mB M s = true := by
          cases hq : mB M s with
          | true => rfl
          | false => rw [hq] at hb; exact absurd rfl hb
        refine xr_aload0 dX9_findTokens_45 rfl ?_
        refine xr_getR dX9_findTokens_46 fk_9_39 lay_77 rfl ?_
        refine xr_aload0 dX9_findTokens_49 rfl ?_
        refine xr_getIv dX9_findTokens_50 fk_9_127 lay_77 rfl e1 ?_
        refine xr_iload1 dX9_findTokens_53 rfl ?_
        refine xr_ineg dX9_findTokens_54 ?_
        refine xr_ic1 dX9_findTokens_55 ?_
        refine xr_isub dX9_findTokens_56 ?_
        show xT _ _ _ 57 _ _ _ _
        refine xr_iast _ dX9_findTokens_57 lay_86 rfl (by omega) (by decide) ?_
        refine xr_aload0 dX9_findTokens_58 rfl ?_
        refine xr_dup dX9_findTokens_59 rfl ?_
        refine xr_getI dX9_findTokens_60 fk_9_127 lay_77 rfl ?_
        refine xr_ic1 dX9_findTokens_63 ?_
        refine xr_iadd dX9_findTokens_64 ?_
        refine xr_putI dX9_findTokens_65 fp_9_127 lay_77 rfl ?_
        rw [va_up_ne _ _ (show 77 ≠ 86 by decide), e1]
        refine xr_iinc dX9_findTokens_68 rfl ii_1 (Nat.le_of_ble_eq_true rfl) ?_
        show xT _ _ _ 71 [_, _] _ _ _
        refine xr_goto 7 dX9_findTokens_71 (by decide) ?_
        rw [k_1, nI_add, nI_add]
        have h5 := lrep.push e2 (2 * s + 1) (v := -nI s - nI 1) (by rw [tok_odd, ← nI_add s 1]; grind)
        rw [Nat.zero_add] at h5
        simp only [List.length_append, List.length_singleton] at h5
        have h6 := (e3.up (k := 86) (upd (va_up I2 85 f 86) ((mMk M s).length + 1) (-nI s - nI 1)) (by decide) (by decide)).up7 (j := 11) (nI ((mMk M s).length + 1 + 1)) (by decide)
        rw [va_up_ne _ _ (show 77 ≠ 86 by decide)] at h6
        refine IH _ ?_ ?_ h6
        · rw [up_same, upd_same, mMk_succ, hb]
          simp
        · rw [va_up_ne _ _ (by decide), up_same, mMk_succ, hb]
          have : mMk M s ++ [2 * s] ++ [2 * s + 1] = mMk M s ++ (if true = true then [2 * s, 2 * s + 1] else [2 * s]) := by simp
          rw [← this]
          exact h5
  refine x_ent (by decide) (Nat.le_of_ble_eq_true rfl) rfl ?_
  show xT _ _ _ 0 [_, _] _ _ _
  refine xr_aload0 dX9_findTokens_0 rfl ?_
  refine xr_ic0 dX9_findTokens_1 ?_
  refine xr_putI dX9_findTokens_2 fp_9_127 lay_77 rfl ?_
  refine xr_ic0 dX9_findTokens_5 ?_
  refine xr_istore1 dX9_findTokens_6 (Nat.le_of_ble_eq_true rfl) ?_
  show xT _ _ _ 7 [_, _] _ _ _
  rw [k_0]
  refine L 0 (by omega) _ ?_ ?_ ?_
  · rw [up_same, upd_same]; rfl
  · exact lrep.nil
  · exact mfx.rf.up7 _ (by decide)
theorem c9_of {S : xSt} (s x what : Int32) (h : mIv I S) : xCon G M_X9_of [.ref (G.1 77), .int s, .int x, .int what] I J (xpi fun v I' J' => v = sp_of S s x what ∧ mIv I' S ∧ mfr I J I' J') := by
  obtain ⟨⟨hK2, hK4, hN8, hok⟩, hK, hN, hwg⟩ := id h.2.1
  refine x_ent (by decide) (Nat.le_of_ble_eq_true rfl) rfl ?_
  show xT _ _ _ 0 [_, _, _, _] _ _ _
  refine xr_iload1 dX9_of_0 rfl ?_
  refine xr_i2l dX9_of_1 ?_
  refine xr_lc0 dX9_of_2 ?_
  refine xr_aload0 dX9_of_3 rfl ?_
  refine xr_getIv dX9_of_4 fk_9_116 lay_77 rfl hN ?_
  refine xr_ic1 dX9_of_7 ?_
  refine xr_isub dX9_of_8 ?_
  refine xr_i2l dX9_of_9 ?_
  show xT _ _ _ 10 _ _ _ _
  refine xr_cSi [_, _, _] dX9_of_10 (xcs_of cf_X9_in ml_9_99 (by decide)) rfl rfl (Nat.le_of_ble_eq_true rfl) (c9_in _ _ _) (fun b I1 J1 hc => ?_)
  obtain ⟨rfl, rfl, rfl⟩ := hc
  rw [in_ix (n := mN S.2.1) (by rw [Int32.toInt_toInt64, k_1, pk_sub_toInt (by omega) (by decide)]; rfl)]
  refine xr_if_eq 49 dX9_of_13 (by decide) (fun hs => ?_) (fun hs => ?_)
  · have hs := is_n hs
    refine xr_bip bi_m2 dX9_of_49 ?_
    refine xr_iret dX9_of_51 rfl rfl ⟨by simp [sp_of, hs], h, mfr.rf⟩
  obtain ⟨s', hs⟩ := is_s hs
  obtain ⟨hsN, rfl⟩ := ix_some hs
  refine xr_iload3 dX9_of_16 rfl ?_
  refine xr_i2l dX9_of_17 ?_
  refine xr_lc0 dX9_of_18 ?_
  refine xr_ldc2 cs_9_109 dX9_of_19 ?_
  refine xr_cSi [_, _, _] dX9_of_22 (xcs_of cf_X9_in ml_9_99 (by decide)) rfl rfl (Nat.le_of_ble_eq_true rfl) (c9_in _ _ _) (fun b I1 J1 hc => ?_)
  obtain ⟨rfl, rfl, rfl⟩ := hc
  rw [in_ix (n := 3) (by decide)]
  refine xr_if_eq 49 dX9_of_25 (by decide) (fun hw => ?_) (fun hw => ?_)
  · have hw := is_n hw
    refine xr_bip bi_m2 dX9_of_49 ?_
    refine xr_iret dX9_of_51 rfl rfl ⟨by simp [sp_of, hs, hw], h, mfr.rf⟩
  obtain ⟨w', hw⟩ := is_s hw
  obtain ⟨hw3, rfl⟩ := ix_some hw
  refine xr_iload3 dX9_of_28 rfl ?_
  refine xr_ic2 dX9_of_29 ?_
  refine xr_icmp_ge 52 dX9_of_30 (by decide) (fun h2 => ?_) (fun h2 => ?_)
  · have h2 : 2 ≤ w' := nle (b := 2) h2
    have : w' = 2 := by omega
    subst this
    refine xr_iload3 dX9_of_52 rfl ?_
    refine xr_if_ne 69 dX9_of_53 (by decide) (fun h0 => ?_) (fun h0 => ?_)
    rotate_left
    · exact absurd h0 (by decide)
    refine xr_iload3 dX9_of_69 rfl ?_
    refine xr_ic1 dX9_of_70 ?_
    refine xr_icmp_ne 87 dX9_of_71 (by decide) (fun h1 => ?_) (fun h1 => ?_)
    rotate_left
    · exact absurd h1 (by decide)
    refine xr_aload0 dX9_of_87 rfl ?_
    refine xr_iload1 dX9_of_88 rfl ?_
    refine xr_cVi [_] dX9_of_89 (xcv_of cf_X9_isBack ml_9_124 (by decide)) rfl lay_77 rfl rfl rfl (Nat.le_of_ble_eq_true rfl) (c9_isBack h.2.1 (by omega)) (fun b I1 J1 hc => ?_)
    obtain ⟨rfl, ⟨f, rfl⟩, rfl⟩ := hc
    have e : sp_of S (nI s') x (nI 2) = b2 (mB S.2.1 s') := by simp [sp_of, hs, hw]
    have e3 : mfx [85] [] I (va_up I 85 f) := mfx.rf.up f (by decide) (by decide)
    refine xr_if_eq 99 dX9_of_92 (by decide) (fun hb => ?_) (fun hb => ?_)
    · skip
      refine xr_ic0 dX9_of_99 ?_
      refine xr_iret dX9_of_100 rfl rfl ⟨by rw [e, hb], e3.iv h (by decide) (by decide), e3.fr (by decide) rfl⟩
    · skip
      refine xr_ic1 dX9_of_95 ?_
      refine xr_goto 100 dX9_of_96 (by decide) ?_
      refine xr_iret dX9_of_100 rfl rfl ⟨by rw [e]; exact ((b2_01 _).resolve_left hb).symm, e3.iv h (by decide) (by decide), e3.fr (by decide) rfl⟩
  have h2 : w' < 2 := nlt (b := 2) h2
  refine xr_iload2 dX9_of_33 rfl ?_
  refine xr_i2l dX9_of_34 ?_
  refine xr_lc0 dX9_of_35 ?_
  refine xr_aload0 dX9_of_36 rfl ?_
  refine xr_getIv dX9_of_37 fk_9_19 lay_77 rfl hK ?_
  refine xr_ic1 dX9_of_40 ?_
  refine xr_isub dX9_of_41 ?_
  refine xr_i2l dX9_of_42 ?_
  show xT _ _ _ 43 _ _ _ _
  refine xr_cSi [_, _, _] dX9_of_43 (xcs_of cf_X9_in ml_9_99 (by decide)) rfl rfl (Nat.le_of_ble_eq_true rfl) (c9_in _ _ _) (fun b I1 J1 hc => ?_)
  obtain ⟨rfl, rfl, rfl⟩ := hc
  rw [in_ix (n := mK S.2.1) (by rw [Int32.toInt_toInt64, k_1, pk_sub_toInt (by omega) (by decide)]; rfl)]
  refine xr_if_ne 52 dX9_of_46 (by decide) (fun hx => ?_) (fun hx => ?_)
  rotate_left
  · have hx := is_n hx
    refine xr_bip bi_m2 dX9_of_49 ?_
    refine xr_iret dX9_of_51 rfl rfl ⟨?_, h, mfr.rf⟩
    rcases (show w' = 0 ∨ w' = 1 by omega) with rfl | rfl <;> simp [sp_of, hs, hw, hx]
  obtain ⟨x', hx⟩ := is_s hx
  obtain ⟨hxK, rfl⟩ := ix_some hx
  refine xr_iload3 dX9_of_52 rfl ?_
  refine xr_if_ne 69 dX9_of_53 (by decide) (fun h0 => ?_) (fun h0 => ?_)
  rotate_left
  · have h0 : w' = 0 := (nI_eq (by omega) (by decide)).mp h0
    subst h0
    refine xr_aload0 dX9_of_56 rfl ?_
    refine xr_getR dX9_of_57 fk_9_23 lay_77 rfl ?_
    refine xr_ic4 dX9_of_60 ?_
    refine xr_iload1 dX9_of_61 rfl ?_
    refine xr_imul dX9_of_62 ?_
    refine xr_iload2 dX9_of_63 rfl ?_
    refine xr_iadd dX9_of_64 ?_
    refine xr_ialdv (4 * s' + x') dX9_of_65 lay_81 (by simp only [k_4, pk_mul, nI_add]) (by omega) (by decide) (hwg s' x' hsN hxK).1 ?_
    refine xr_goto 100 dX9_of_66 (by decide) ?_
    refine xr_iret dX9_of_100 rfl rfl ⟨by simp [sp_of, hs, hw, hx], h, mfr.rf⟩
  · have h0 : w' = 1 := by
      have : w' ≠ 0 := fun e => h0 (by rw [e]; rfl)
      omega
    subst h0
    refine xr_iload3 dX9_of_69 rfl ?_
    refine xr_ic1 dX9_of_70 ?_
    refine xr_icmp_ne 87 dX9_of_71 (by decide) (fun h1 => ?_) (fun h1 => ?_)
    · exact absurd rfl h1
    refine xr_aload0 dX9_of_74 rfl ?_
    refine xr_getR dX9_of_75 fk_9_26 lay_77 rfl ?_
    refine xr_ic4 dX9_of_78 ?_
    refine xr_iload1 dX9_of_79 rfl ?_
    refine xr_imul dX9_of_80 ?_
    refine xr_iload2 dX9_of_81 rfl ?_
    refine xr_iadd dX9_of_82 ?_
    refine xr_ialdv (4 * s' + x') dX9_of_83 lay_82 (by simp only [k_4, pk_mul, nI_add]) (by omega) (by decide) (hwg s' x' hsN hxK).2 ?_
    refine xr_goto 100 dX9_of_84 (by decide) ?_
    refine xr_iret dX9_of_100 rfl rfl ⟨by simp [sp_of, hs, hw, hx], h, mfr.rf⟩
theorem c9_many {S : xSt} (what : Int32) (h : mIv I S) : xCon G M_X9_many [.ref (G.1 77), .int what] I J (xpi fun v I' J' => v = sp_many S what ∧ mIv I' S ∧ mfr I J I' J') := by
  refine x_ent (by decide) (Nat.le_of_ble_eq_true rfl) rfl ?_
  show xT _ _ _ 0 [_, _] _ _ _
  refine xr_aload0 dX9_many_0 rfl ?_
  refine xr_cVv [] dX9_many_1 (xcv_of cf_X9_findTokens ml_9_130 (by decide)) rfl lay_77 rfl rfl rfl (Nat.le_of_ble_eq_true rfl) (c9_findTokens h.2.1) (fun I1 J1 hc => ?_)
  obtain ⟨h1, h2, rfl⟩ := hc
  have hI1 := h2.iv h (by decide) (by decide)
  have hf1 : mfr I J I1 J := h2.fr (by decide) rfl
  obtain ⟨⟨hK2, hK4, hN8, hok⟩, hK, hN, hwg⟩ := id hI1.2.1
  refine xr_iload1 dX9_many_4 rfl ?_
  by_cases w0 : what = 0
  · subst w0
    refine xr_tabIn 36 dX9_many_5 (by decide) (by decide) rfl (by decide) ?_
    refine xr_aload0 dX9_many_36 rfl ?_
    refine xr_getIv dX9_many_37 fk_9_19 lay_77 rfl hK ?_
    refine xr_iret dX9_many_40 rfl rfl ⟨by simp [sp_many], hI1, hf1⟩
  by_cases w1 : what = 1
  · subst w1
    refine xr_tabIn 41 dX9_many_5 (by decide) (by decide) rfl (by decide) ?_
    refine xr_aload0 dX9_many_41 rfl ?_
    refine xr_getIv dX9_many_42 fk_9_116 lay_77 rfl hN ?_
    refine xr_iret dX9_many_45 rfl rfl ⟨by simp [sp_many], hI1, hf1⟩
  by_cases w2 : what = 2
  · subst w2
    refine xr_tabIn 46 dX9_many_5 (by decide) (by decide) rfl (by decide) ?_
    refine xr_aload0 dX9_many_46 rfl ?_
    refine xr_cVi [] dX9_many_47 (xcv_of cf_X9_isWhole ml_9_133 (by decide)) rfl lay_77 rfl rfl rfl (Nat.le_of_ble_eq_true rfl) (c9_isWhole hI1.2.1) (fun v I2 J2 hc => ?_)
    obtain ⟨rfl, rfl, rfl⟩ := hc
    refine xr_if_eq 57 dX9_many_50 (by decide) (fun hb => ?_) (fun hb => ?_)
    · skip
      refine xr_ic0 dX9_many_57 ?_
      refine xr_iret dX9_many_58 rfl rfl ⟨by simp [sp_many, hb], hI1, hf1⟩
    · skip
      refine xr_ic1 dX9_many_53 ?_
      refine xr_goto 58 dX9_many_54 (by decide) ?_
      refine xr_iret dX9_many_58 rfl rfl ⟨by simp [sp_many, (b2_01 _).resolve_left hb], hI1, hf1⟩
  by_cases w3 : what = 3
  · subst w3
    refine xr_tabIn 59 dX9_many_5 (by decide) (by decide) rfl (by decide) ?_
    refine xr_aload0 dX9_many_59 rfl ?_
    refine xr_getIv dX9_many_60 fk_9_127 lay_77 rfl h1.1 ?_
    refine xr_iret dX9_many_63 rfl rfl ⟨by simp [sp_many], hI1, hf1⟩
  · refine xr_tabOut 64 dX9_many_5 ?_ (by decide) ?_
    · apply Classical.byContradiction
      intro q
      have q1 : ¬ what.toInt = 0 := fun e => w0 (Int32.toInt_inj.mp (by rw [e]; decide))
      have q2 : ¬ what.toInt = 1 := fun e => w1 (Int32.toInt_inj.mp (by rw [e]; decide))
      have q3 : ¬ what.toInt = 2 := fun e => w2 (Int32.toInt_inj.mp (by rw [e]; decide))
      have q4 : ¬ what.toInt = 3 := fun e => w3 (Int32.toInt_inj.mp (by rw [e]; decide))
      omega
    · skip
      refine xr_icm1 dX9_many_64 ?_
      refine xr_iret dX9_many_65 rfl rfl ⟨by simp [sp_many, w0, w1, w2, w3], hI1, hf1⟩
end M05
