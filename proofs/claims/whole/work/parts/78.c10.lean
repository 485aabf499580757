section C10
variable {G : xG} {I : xI} {J : xJ}
theorem c8_state {S : xSt} (r i : Int32) (hs : cSh I S.1) (h : cMc I S.2.1) (hp : cSp I J S.2.1 S.2.2) : xCon G M_X8_state [.ref (G.1 0), .int r, .int i] I J (xpi fun v I' J' => v = (sp_state S r i).1 ∧ (((sp_state S r i).2 = S ∧ I = I' ∧ J = J') ∨ ((sp_state S r i).2.1 = S.1 ∧ cMc I' (sp_state S r i).2.2.1 ∧ cSp I' J' (sp_state S r i).2.2.1 (sp_state S r i).2.2.2 ∧ cFg I J I' J'))) := by
  have K11 : sp_state S r i = (-1, S) → xT G M_X8_state (xMQ G (xpi fun v I' J' => v = (sp_state S r i).1 ∧ (((sp_state S r i).2 = S ∧ I = I' ∧ J = J') ∨ ((sp_state S r i).2.1 = S.1 ∧ cMc I' (sp_state S r i).2.2.1 ∧ cSp I' J' (sp_state S r i).2.2.1 (sp_state S r i).2.2.2 ∧ cFg I J I' J')))) 11 [some (.ref (G.1 0)), some (.int r), some (.int i)] [] I J := by
    intro e
    rw [e]
    refine xr_icm1 dX8_state_11 ?_
    refine xr_iret dX8_state_12 rfl rfl ⟨rfl, Or.inl ⟨rfl, rfl, rfl⟩⟩
  have hN8 := h.1.1.2.2.1
  refine x_ent (by decide) (Nat.le_of_ble_eq_true rfl) rfl ?_
  show xT _ _ _ 0 [_, _, _] _ _ _
  refine xr_iload1 dX8_state_0 rfl ?_
  refine xr_cSi [_] dX8_state_1 (xcs_of cf_X8_isSheet ml_8_66 (by decide)) rfl rfl (Nat.le_of_ble_eq_true rfl) (c8_isSheet r) (fun v I1 J1 hc => ?_)
  obtain ⟨rfl, rfl, rfl⟩ := hc
  refine xr_if_eq 11 dX8_state_4 (by decide) (fun hr => ?_) (fun hr => ?_)
  · have hr := is_n hr
    exact K11 (by unfold sp_state; rw [hr])
  obtain ⟨r', hr⟩ := is_s hr
  obtain ⟨hr4, rfl⟩ := ix_some hr
  have hS := isSt_r r' hr4
  refine xr_iload2 dX8_state_7 rfl ?_
  refine xr_if_ge 13 dX8_state_8 (by decide) (fun h0 => ?_) (fun h0 => ?_)
  rotate_left
  · have h0 : i < 0 := by rw [lt_toInt, ti_0]; rw [le_toInt, ti_0] at h0; omega
    exact K11 (by unfold sp_state; rw [hr]; simp only; rw [if_pos h0])
  have h0 : ¬ i < 0 := by rw [lt_toInt, ti_0]; rw [le_toInt, ti_0] at h0; omega
  have hin : i = nI (w2n i) := (nI_w2n h0).symm
  have hi31 : w2n i < 2 ^ 31 := by have := Int32.toInt_lt i; unfold w2n; omega
  have h1 := hs r' hr4
  cases hq : S.1 r' with
  | none =>
    rw [hq] at h1
    have e : sp_state S (nI r') i = (-3, S) := by unfold sp_state; rw [hr]; simp only; rw [if_neg h0, hq]
    rw [e]
    refine xr_aload0 dX8_state_13 rfl ?_
    refine xr_getR dX8_state_14 fk_8_11 lay_0 rfl ?_
    refine xr_iload1 dX8_state_17 rfl ?_
    refine xr_aald3 r' dX8_state_18 lay_1 rfl hr4 (by decide) ?_
    refine xr_getIv dX8_state_19 fk_8_74 hS.1 rfl h1 ?_
    refine xr_if_ne 28 dX8_state_22 (by decide) (fun h2 => ?_) (fun h2 => ?_)
    · exact absurd rfl h2
    refine xr_bip bi_m3 dX8_state_25 ?_
    refine xr_iret dX8_state_27 rfl rfl ⟨rfl, Or.inl ⟨rfl, rfl, rfl⟩⟩
  | some q =>
    rw [hq] at h1
    obtain ⟨ht, hs0⟩ := h1
    have e : sp_state S (nI r') i = if stB (mK S.2.1) q (w2n i) = false then (-1, S) else if mN S.2.1 = 8 then (-2, S) else (nI (mN S.2.1), (S.1, addSt S.2.1 q (w2n i), S.2.2)) := by unfold sp_state; rw [hr]; simp only; rw [if_neg h0, hq]
    refine xr_aload0 dX8_state_13 rfl ?_
    refine xr_getR dX8_state_14 fk_8_11 lay_0 rfl ?_
    refine xr_iload1 dX8_state_17 rfl ?_
    refine xr_aald3 r' dX8_state_18 lay_1 rfl hr4 (by decide) ?_
    refine xr_getIv dX8_state_19 fk_8_74 hS.1 rfl ht ?_
    refine xr_if_ne 28 dX8_state_22 (by decide) (fun h2 => ?_) (fun h2 => ?_)
    rotate_left
    · exact absurd h2 (by decide)
    generalize w2n i = i' at hin hi31 e
    subst hin
    refine xr_aload0 dX8_state_28 rfl ?_
    refine xr_getR dX8_state_29 fk_8_33 lay_0 rfl ?_
    refine xr_aload0 dX8_state_32 rfl ?_
    refine xr_getR dX8_state_33 fk_8_11 lay_0 rfl ?_
    refine xr_iload1 dX8_state_36 rfl ?_
    refine xr_aald3 r' dX8_state_37 lay_1 rfl hr4 (by decide) ?_
    refine xr_iload2 dX8_state_38 rfl ?_
    refine xr_cVi [_, _] dX8_state_39 (xcv_of cf_X3_canRead ml_8_98 (by decide)) rfl lay_21 rfl rfl rfl (Nat.le_of_ble_eq_true rfl) (c3_canRead h.1 hS hs0 hi31) (fun v I1 J1 hc => ?_)
    obtain ⟨rfl, rfl, rfl⟩ := hc
    refine xr_if_ne 47 dX8_state_42 (by decide) (fun hg => ?_) (fun hg => ?_)
    rotate_left
    · have hg := b2_0.mp hg
      rw [if_pos hg] at e
      rw [e]
      refine xr_icm1 dX8_state_45 ?_
      refine xr_iret dX8_state_46 rfl rfl ⟨rfl, Or.inl ⟨rfl, rfl, rfl⟩⟩
    have hg : stB (mK S.2.1) q i' = true := by
      cases hb : stB (mK S.2.1) q i' with
      | true => rfl
      | false => rw [hb] at hg; exact absurd rfl hg
    rw [if_neg (by rw [hg]; decide)] at e
    refine xr_aload0 dX8_state_47 rfl ?_
    refine xr_getR dX8_state_48 fk_8_33 lay_0 rfl ?_
    refine xr_getIv dX8_state_51 fk_8_102 lay_21 rfl h.1.2.2.1 ?_
    refine xr_bip bi_8 dX8_state_54 ?_
    refine xr_icmp_lt 62 dX8_state_56 (by decide) (fun h8 => ?_) (fun h8 => ?_)
    rotate_left
    · have h8 : mN S.2.1 = 8 := by have := nnlt (b := 8) h8; omega
      rw [if_pos h8] at e
      rw [e]
      refine xr_bip bi_m2 dX8_state_59 ?_
      refine xr_iret dX8_state_61 rfl rfl ⟨rfl, Or.inl ⟨rfl, rfl, rfl⟩⟩
    have h8 : mN S.2.1 < 8 := nltl (b := 8) h8
    rw [if_neg (by omega)] at e
    rw [e]
    refine xr_aload0 dX8_state_62 rfl ?_
    refine xr_getR dX8_state_63 fk_8_33 lay_0 rfl ?_
    refine xr_aload0 dX8_state_66 rfl ?_
    refine xr_getR dX8_state_67 fk_8_11 lay_0 rfl ?_
    refine xr_iload1 dX8_state_70 rfl ?_
    refine xr_aald3 r' dX8_state_71 lay_1 rfl hr4 (by decide) ?_
    refine xr_iload2 dX8_state_72 rfl ?_
    refine xr_cVv [_, _] dX8_state_73 (xcv_of cf_X3_read ml_8_106 (by decide)) rfl lay_21 rfl rfl rfl (Nat.le_of_ble_eq_true rfl) (c3_read h.1 hS (by omega) hs0 hi31 hg h8) (fun I1 J1 hc => ?_)
    obtain ⟨m1, f1⟩ := hc
    refine xr_aload0 dX8_state_76 rfl ?_
    refine xr_cVv [] dX8_state_77 (xcv_of cf_X8_forgetAnswers ml_8_92 (by decide)) rfl lay_0 rfl rfl rfl (Nat.le_of_ble_eq_true rfl) c8_forgetAnswers (fun I2 J2 hc => ?_)
    obtain ⟨e27, e56, f2⟩ := hc
    have m2 := f2.mc m1 (by decide)
    have f02 : cfx [21, 22, 23, 24, 25, 26, 27, 56] I J I2 J2 := (f1.mono (by simp)).tr (f2.mono (by simp))
    refine xr_aload0 dX8_state_80 rfl ?_
    refine xr_getR dX8_state_81 fk_8_33 lay_0 rfl ?_
    refine xr_getIv dX8_state_84 fk_8_102 lay_21 rfl m2.1.2.2.1 ?_
    refine xr_ic1 dX8_state_87 ?_
    refine xr_isub dX8_state_88 ?_
    rw [show mN (addSt S.2.1 q i') = mN S.2.1 + 1 from rfl, k_1, pk_sub (by omega), Nat.add_sub_cancel]
    refine xr_iret dX8_state_89 rfl rfl ⟨rfl, Or.inr ⟨rfl, m2, fun w hw => ?_, f02.mono (by simp), by rw [e27, (f1 27 (by decide)).1], by rw [e56, (f1 56 (by decide)).1]⟩⟩
    exact ⟨f02.wd (hp w hw).1 (by simp; omega), addSt_good (hp w hw).2⟩
theorem c8_change {S : xSt} (s x y t : Int32) (h : cMc I S.2.1) (hp : cSp I J S.2.1 S.2.2) : xCon G M_X8_change [.ref (G.1 0), .int s, .int x, .int y, .int t] I J (xpi fun v I' J' => v = (sp_change S s x y t).1 ∧ (((sp_change S s x y t).2 = S ∧ I = I' ∧ J = J') ∨ ((sp_change S s x y t).2.1 = S.1 ∧ cMc I' (sp_change S s x y t).2.2.1 ∧ cSp I' J' (sp_change S s x y t).2.2.1 (sp_change S s x y t).2.2.2 ∧ cFg I J I' J'))) := by
  have K41 : sp_change S s x y t = (-1, S) → xT G M_X8_change (xMQ G (xpi fun v I' J' => v = (sp_change S s x y t).1 ∧ (((sp_change S s x y t).2 = S ∧ I = I' ∧ J = J') ∨ ((sp_change S s x y t).2.1 = S.1 ∧ cMc I' (sp_change S s x y t).2.2.1 ∧ cSp I' J' (sp_change S s x y t).2.2.1 (sp_change S s x y t).2.2.2 ∧ cFg I J I' J')))) 41 [some (.ref (G.1 0)), some (.int s), some (.int x), some (.int y), some (.int t), none] [] I J := by
    intro e
    rw [e]
    refine xr_icm1 dX8_change_41 ?_
    refine xr_iret dX8_change_42 rfl rfl ⟨rfl, Or.inl ⟨rfl, rfl, rfl⟩⟩
  refine x_ent (by decide) (Nat.le_of_ble_eq_true rfl) rfl ?_
  show xT _ _ _ 0 [_, _, _, _, _, _] _ _ _
  refine xr_aload0 dX8_change_0 rfl ?_
  refine xr_getR dX8_change_1 fk_8_33 lay_0 rfl ?_
  refine xr_iload1 dX8_change_4 rfl ?_
  refine xr_cVi [_] dX8_change_5 (xcv_of cf_X3_isState ml_8_110 (by decide)) rfl lay_21 rfl rfl rfl (Nat.le_of_ble_eq_true rfl) (c3_isState h.1 s) (fun v I1 J1 hc => ?_)
  obtain ⟨rfl, rfl, rfl⟩ := hc
  refine xr_if_eq 41 dX8_change_8 (by decide) (fun hs => ?_) (fun hs => ?_)
  · have hs := is_n hs
    exact K41 (by simp [sp_change, hs])
  obtain ⟨s', hs⟩ := is_s hs
  obtain ⟨hsN, rfl⟩ := ix_some hs
  refine xr_aload0 dX8_change_11 rfl ?_
  refine xr_getR dX8_change_12 fk_8_33 lay_0 rfl ?_
  refine xr_iload2 dX8_change_15 rfl ?_
  refine xr_cVi [_] dX8_change_16 (xcv_of cf_X3_isLetter ml_8_113 (by decide)) rfl lay_21 rfl rfl rfl (Nat.le_of_ble_eq_true rfl) (c3_isLetter h.1 x) (fun v I1 J1 hc => ?_)
  obtain ⟨rfl, rfl, rfl⟩ := hc
  refine xr_if_eq 41 dX8_change_19 (by decide) (fun hx => ?_) (fun hx => ?_)
  · have hx := is_n hx
    exact K41 (by simp [sp_change, hs, hx])
  obtain ⟨x', hx⟩ := is_s hx
  obtain ⟨hxK, rfl⟩ := ix_some hx
  refine xr_aload0 dX8_change_22 rfl ?_
  refine xr_getR dX8_change_23 fk_8_33 lay_0 rfl ?_
  refine xr_iload3 dX8_change_26 rfl ?_
  refine xr_cVi [_] dX8_change_27 (xcv_of cf_X3_isLetter ml_8_113 (by decide)) rfl lay_21 rfl rfl rfl (Nat.le_of_ble_eq_true rfl) (c3_isLetter h.1 y) (fun v I1 J1 hc => ?_)
  obtain ⟨rfl, rfl, rfl⟩ := hc
  refine xr_if_eq 41 dX8_change_30 (by decide) (fun hy => ?_) (fun hy => ?_)
  · have hy := is_n hy
    exact K41 (by simp [sp_change, hs, hx, hy])
  obtain ⟨y', hy⟩ := is_s hy
  obtain ⟨hyK, rfl⟩ := ix_some hy
  refine xr_iload dX8_change_33 rfl ?_
  refine xr_cSi [_] dX8_change_35 (xcs_of cf_X8_isGoal ml_8_116 (by decide)) rfl rfl (Nat.le_of_ble_eq_true rfl) (c8_isGoal t) (fun v I1 J1 hc => ?_)
  obtain ⟨rfl, rfl, rfl⟩ := hc
  refine xr_if_ne 43 dX8_change_38 (by decide) (fun ht => ?_) (fun ht => ?_)
  rotate_left
  · have ht := b2d ht
    exact K41 (by simp only [sp_change, hs, hx, hy]; rw [if_neg ht])
  have ht := b2d' ht
  have e : sp_change S (nI s') (nI x') (nI y') t = (1, (S.1, chSt S.2.1 s' x' y' (i2o t), fun w => if wLost (chSt S.2.1 s' x' y' (i2o t)) (S.2.2 w) then [] else S.2.2 w)) := by
    simp only [sp_change, hs, hx, hy]; rw [if_pos ht]
  rw [e]
  refine xr_aload0 dX8_change_43 rfl ?_
  refine xr_getR dX8_change_44 fk_8_33 lay_0 rfl ?_
  refine xr_iload1 dX8_change_47 rfl ?_
  refine xr_iload2 dX8_change_48 rfl ?_
  refine xr_iload3 dX8_change_49 rfl ?_
  refine xr_iload dX8_change_50 rfl ?_
  refine xr_cVv [_, _, _, _] dX8_change_52 (xcv_of cf_X3_rewire ml_8_119 (by decide)) rfl lay_21 rfl rfl rfl (Nat.le_of_ble_eq_true rfl) (c3_rewire h.1 hsN hxK hyK ht) (fun I1 J1 hc => ?_)
  obtain ⟨m1, f1⟩ := hc
  have hmN : mN (chSt S.2.1 s' x' y' (i2o t)) = mN S.2.1 := rfl
  generalize chSt S.2.1 s' x' y' (i2o t) = M' at m1 hmN ⊢
  refine xr_aload0 dX8_change_55 rfl ?_
  refine xr_cVv [] dX8_change_56 (xcv_of cf_X8_forgetAnswers ml_8_92 (by decide)) rfl lay_0 rfl rfl rfl (Nat.le_of_ble_eq_true rfl) c8_forgetAnswers (fun I2 J2 hc => ?_)
  obtain ⟨e27, e56, f2⟩ := hc
  have m2 := f2.mc m1 (by decide)
  have g27 : I2 27 = upd (I 27) 7 0 := by rw [e27, (f1 27 (by decide)).1]
  have g56 : I2 56 = upd (I 56) 8 0 := by rw [e56, (f1 56 (by decide)).1]
  have f02 : cfx [21, 22, 23, 24, 25, 26, 27, 56] I J I2 J2 := (f1.mono (by simp)).tr (f2.mono (by simp))
  have L : ∀ w, w ≤ 8 → ∀ I3 J3, cfx [12, 13, 14, 15, 16, 17, 18, 19] I2 J2 I3 J3 → (∀ w', w' < w → cWd I3 J3 (12 + w') (if wLost M' (S.2.2 w') then [] else S.2.2 w')) → (∀ w', w' < 8 → w ≤ w' → cWd I3 J3 (12 + w') (S.2.2 w')) → xT G M_X8_change (xMQ G (xpi fun v I' J' => v = ((1, ((S.1, M', fun w => if wLost M' (S.2.2 w) then [] else S.2.2 w) : xSt)) : Int32 × xSt).1 ∧ ((((1, ((S.1, M', fun w => if wLost M' (S.2.2 w) then [] else S.2.2 w) : xSt)) : Int32 × xSt).2 = S ∧ I = I' ∧ J = J') ∨ (((1, ((S.1, M', fun w => if wLost M' (S.2.2 w) then [] else S.2.2 w) : xSt)) : Int32 × xSt).2.1 = S.1 ∧ cMc I' ((1, ((S.1, M', fun w => if wLost M' (S.2.2 w) then [] else S.2.2 w) : xSt)) : Int32 × xSt).2.2.1 ∧ cSp I' J' ((1, ((S.1, M', fun w => if wLost M' (S.2.2 w) then [] else S.2.2 w) : xSt)) : Int32 × xSt).2.2.1 ((1, ((S.1, M', fun w => if wLost M' (S.2.2 w) then [] else S.2.2 w) : xSt)) : Int32 × xSt).2.2.2 ∧ cFg I J I' J')))) 62 [some (.ref (G.1 0)), some (.int (nI s')), some (.int (nI x')), some (.int (nI y')), some (.int t), some (.int (nI w))] [] I3 J3 := by
    refine x_for (fun w hw IH I3 J3 f3 d3 o3 => ?_)
    refine xr_iload dX8_change_62 rfl ?_
    refine xr_bip bi_8 dX8_change_64 ?_
    refine xr_icmp_ge 99 dX8_change_66 (by decide) (fun hc => ?_) (fun hc => ?_)
    · have : w = 8 := by have := nle (b := 8) hc; omega
      subst this
      refine xr_ic1 dX8_change_99 ?_
      refine xr_iret dX8_change_100 rfl rfl ⟨rfl, Or.inr ⟨rfl, f3.mc m2 (by decide), fun w' hw' => ⟨d3 w' hw', lost_good hmN (hp w' hw').2⟩, (f02.mono (by simp)).tr (f3.mono (by simp)), by rw [(wd_27 f3).1]; exact g27, by rw [(wd_27 f3).2]; exact g56⟩⟩
    have hw8 := nlt (b := 8) hc
    have IH := IH hw8
    have hW := isW_s w hw8
    have K93 : ∀ I4 J4, cfx [12, 13, 14, 15, 16, 17, 18, 19] I2 J2 I4 J4 → (∀ w', w' < w + 1 → cWd I4 J4 (12 + w') (if wLost M' (S.2.2 w') then [] else S.2.2 w')) → (∀ w', w' < 8 → w + 1 ≤ w' → cWd I4 J4 (12 + w') (S.2.2 w')) → xT G M_X8_change (xMQ G (xpi fun v I' J' => v = ((1, ((S.1, M', fun w => if wLost M' (S.2.2 w) then [] else S.2.2 w) : xSt)) : Int32 × xSt).1 ∧ ((((1, ((S.1, M', fun w => if wLost M' (S.2.2 w) then [] else S.2.2 w) : xSt)) : Int32 × xSt).2 = S ∧ I = I' ∧ J = J') ∨ (((1, ((S.1, M', fun w => if wLost M' (S.2.2 w) then [] else S.2.2 w) : xSt)) : Int32 × xSt).2.1 = S.1 ∧ cMc I' ((1, ((S.1, M', fun w => if wLost M' (S.2.2 w) then [] else S.2.2 w) : xSt)) : Int32 × xSt).2.2.1 ∧ cSp I' J' ((1, ((S.1, M', fun w => if wLost M' (S.2.2 w) then [] else S.2.2 w) : xSt)) : Int32 × xSt).2.2.1 ((1, ((S.1, M', fun w => if wLost M' (S.2.2 w) then [] else S.2.2 w) : xSt)) : Int32 × xSt).2.2.2 ∧ cFg I J I' J')))) 93 [some (.ref (G.1 0)), some (.int (nI s')), some (.int (nI x')), some (.int (nI y')), some (.int t), some (.int (nI w))] [] I4 J4 := by
      intro I4 J4 f4 d4 o4
      refine xr_iinc dX8_change_93 rfl ii_1 (Nat.le_of_ble_eq_true rfl) ?_
      show xT _ _ _ 96 [_, _, _, _, _, _] _ _ _
      refine xr_goto 62 dX8_change_96 (by decide) ?_
      rw [k_1, nI_add]
      exact IH I4 J4 f4 d4 o4
    refine xr_aload0 dX8_change_69 rfl ?_
    refine xr_aload0 dX8_change_70 rfl ?_
    refine xr_getR dX8_change_71 fk_8_17 lay_0 rfl ?_
    refine xr_iload dX8_change_74 rfl ?_
    refine xr_aald4 w dX8_change_76 lay_2 rfl hw8 (by decide) ?_
    refine xr_cVi [_] dX8_change_77 (xcv_of cf_X8_hasLostWayBack ml_8_123 (by decide)) rfl lay_0 rfl rfl rfl (Nat.le_of_ble_eq_true rfl) (c8_hasLostWayBack m2.1.1 (f3.mc m2 (by decide)).2.1 hW (o3 w hw8 (Nat.le_refl _)) ((hp w hw8).2.w16 h.1.1)) (fun v I4 J4 hc4 => ?_)
    obtain ⟨rfl, rfl, rfl⟩ := hc4
    refine xr_if_eq 93 dX8_change_80 (by decide) (fun hb => ?_) (fun hb => ?_)
    · have hb := b2_0.mp hb
      refine K93 I3 J3 f3 (fun w' hw' => ?_) (fun w' h1 h2 => o3 w' h1 (by omega))
      by_cases q : w' = w
      · subst q; rw [hb]; exact o3 w' hw8 (Nat.le_refl _)
      · exact d3 w' (by omega)
    have hb : wLost M' (S.2.2 w) = true := by
      cases hq : wLost M' (S.2.2 w) with
      | true => rfl
      | false => rw [hq] at hb; exact absurd rfl hb
    refine xr_aload0 dX8_change_83 rfl ?_
    refine xr_getR dX8_change_84 fk_8_17 lay_0 rfl ?_
    refine xr_iload dX8_change_87 rfl ?_
    refine xr_aald4 w dX8_change_89 lay_2 rfl hw8 (by decide) ?_
    refine xr_cVv [] dX8_change_90 (xcv_of cf_X7_empty ml_8_95 (by decide)) rfl hW rfl rfl rfl (Nat.le_of_ble_eq_true rfl) (c7_empty hW) (fun I4 J4 hc4 => ?_)
    obtain ⟨d4, f4⟩ := hc4
    refine K93 I4 J4 (f3.tr (f4.mono (fun a ha => by simp at ha ⊢; omega))) (fun w' hw' => ?_) (fun w' h1 h2 => ?_)
    · by_cases q : w' = w
      · subst q; rw [hb]; exact d4
      · exact f4.wd (d3 w' (by omega)) (by simp; omega)
    · exact f4.wd (o3 w' h1 (by omega)) (by simp; omega)
  refine xr_ic0 dX8_change_59 ?_
  refine xr_istore dX8_change_60 (Nat.le_of_ble_eq_true rfl) ?_
  show xT _ _ _ 62 [_, _, _, _, _, _] _ _ _
  exact L 0 (by decide) I2 J2 cfx.rf (fun w' hw' => absurd hw' (Nat.not_lt_zero _)) (fun w' hw' _ => f02.wd (hp w' hw').1 (by simp; omega))
theorem c8_of {S : xSt} (s x what : Int32) (h : cMc I S.2.1) : xCon G M_X8_of [.ref (G.1 0), .int s, .int x, .int what] I J (xpi fun v I' J' => v = sp_of S s x what ∧ I = I' ∧ J = J') := by
  have hN8 := h.1.1.2.2.1
  have hK4 := h.1.1.2.1
  have K20 : sp_of S s x what = -2 → xT G M_X8_of (xMQ G (xpi fun v I' J' => v = sp_of S s x what ∧ I = I' ∧ J = J')) 20 [some (.ref (G.1 0)), some (.int s), some (.int x), some (.int what), none] [] I J := by
    intro e
    rw [e]
    refine xr_bip bi_m2 dX8_of_20 ?_
    refine xr_iret dX8_of_22 rfl rfl ⟨rfl, rfl, rfl⟩
  refine x_ent (by decide) (Nat.le_of_ble_eq_true rfl) rfl ?_
  show xT _ _ _ 0 [_, _, _, _, _] _ _ _
  refine xr_aload0 dX8_of_0 rfl ?_
  refine xr_getR dX8_of_1 fk_8_33 lay_0 rfl ?_
  refine xr_iload1 dX8_of_4 rfl ?_
  refine xr_cVi [_] dX8_of_5 (xcv_of cf_X3_isState ml_8_110 (by decide)) rfl lay_21 rfl rfl rfl (Nat.le_of_ble_eq_true rfl) (c3_isState h.1 s) (fun v I1 J1 hc => ?_)
  obtain ⟨rfl, rfl, rfl⟩ := hc
  refine xr_if_eq 20 dX8_of_8 (by decide) (fun hs => ?_) (fun hs => ?_)
  · have hs := is_n hs
    exact K20 (by simp [sp_of, hs])
  obtain ⟨s', hs⟩ := is_s hs
  obtain ⟨hsN, rfl⟩ := ix_some hs
  refine xr_iload3 dX8_of_11 rfl ?_
  refine xr_if_lt 20 dX8_of_12 (by decide) (fun h0 => ?_) (fun h0 => ?_)
  · rw [lt_toInt, ti_0] at h0
    exact K20 (by simp [sp_of, hs, ix_no (n := 3) (Or.inl h0)])
  rw [lt_toInt, ti_0] at h0
  refine xr_iload3 dX8_of_15 rfl ?_
  refine xr_ic2 dX8_of_16 ?_
  refine xr_icmp_le 23 dX8_of_17 (by decide) (fun h1 => ?_) (fun h1 => ?_)
  rotate_left
  · rw [le_toInt, ti_2] at h1
    exact K20 (by simp [sp_of, hs, ix_no (x := what) (n := 3) (Or.inr (by omega))])
  rw [le_toInt, ti_2] at h1
  have hwh := ix_in (n := 3) h0 (by omega)
  obtain ⟨hw3, hwn⟩ := ix_some hwh
  generalize what.toInt.toNat = w' at hwh hw3 hwn
  subst hwn
  refine xr_iload3 dX8_of_23 rfl ?_
  refine xr_ic2 dX8_of_24 ?_
  refine xr_icmp_ne 45 dX8_of_25 (by decide) (fun h2 => ?_) (fun h2 => ?_)
  rotate_left
  · have h2 : w' = 2 := (nI_eq (by omega) (by decide)).mp h2
    subst h2
    have e : sp_of S (nI s') x (nI 2) = b2 (mB S.2.1 s') := by simp only [sp_of, hs, hwh]
    rw [e]
    refine xr_aload0 dX8_of_28 rfl ?_
    refine xr_getR dX8_of_29 fk_8_33 lay_0 rfl ?_
    refine xr_iload1 dX8_of_32 rfl ?_
    refine xr_cVi [_] dX8_of_33 (xcv_of cf_X3_isBack ml_8_127 (by decide)) rfl lay_21 rfl rfl rfl (Nat.le_of_ble_eq_true rfl) (c3_isBack h.2.1 (by omega)) (fun v I1 J1 hc => ?_)
    obtain ⟨rfl, rfl, rfl⟩ := hc
    refine xr_if_eq 43 dX8_of_36 (by decide) (fun hb => ?_) (fun hb => ?_)
    · skip
      refine xr_ic0 dX8_of_43 ?_
      refine xr_iret dX8_of_44 rfl rfl ⟨by rw [b2_0.mp hb]; rfl, rfl, rfl⟩
    · skip
      refine xr_ic1 dX8_of_39 ?_
      refine xr_goto 44 dX8_of_40 (by decide) ?_
      refine xr_iret dX8_of_44 rfl rfl ⟨?_, rfl, rfl⟩
      cases hq : mB S.2.1 s' with
      | true => rfl
      | false => rw [hq] at hb; exact absurd rfl hb
  have h2 : w' ≠ 2 := fun q => h2 (by rw [q]; rfl)
  refine xr_aload0 dX8_of_45 rfl ?_
  refine xr_getR dX8_of_46 fk_8_33 lay_0 rfl ?_
  refine xr_iload2 dX8_of_49 rfl ?_
  refine xr_cVi [_] dX8_of_50 (xcv_of cf_X3_isLetter ml_8_113 (by decide)) rfl lay_21 rfl rfl rfl (Nat.le_of_ble_eq_true rfl) (c3_isLetter h.1 x) (fun v I1 J1 hc => ?_)
  obtain ⟨rfl, rfl, rfl⟩ := hc
  have e : sp_of S (nI s') x (nI w') = match ix x (mK S.2.1) with
    | none => -2
    | some x => if w' = 0 then nI (mWr S.2.1 s' x) else oI (mGo S.2.1 s' x) := by
    match w', hw3, h2, hwh with
    | 0, _, _, hwh => simp only [sp_of, hs, hwh]; cases ix x (mK S.2.1) <;> rfl
    | 1, _, _, hwh => simp only [sp_of, hs, hwh]; cases ix x (mK S.2.1) <;> rfl
    | 2, _, h2, _ => exact absurd rfl h2
  rw [e]
  refine xr_if_ne 59 dX8_of_53 (by decide) (fun hx => ?_) (fun hx => ?_)
  rotate_left
  · have hx := is_n hx
    rw [hx]
    refine xr_bip bi_m2 dX8_of_56 ?_
    refine xr_iret dX8_of_58 rfl rfl ⟨rfl, rfl, rfl⟩
  obtain ⟨x', hx⟩ := is_s hx
  obtain ⟨hxK, rfl⟩ := ix_some hx
  rw [hx]
  have hwr := (h.1.2.2.2 s' x' hsN hxK).1
  have hgo := (h.1.2.2.2 s' x' hsN hxK).2
  refine xr_iload1 dX8_of_59 rfl ?_
  refine xr_ic4 dX8_of_60 ?_
  refine xr_imul dX8_of_61 ?_
  refine xr_iload2 dX8_of_62 rfl ?_
  refine xr_iadd dX8_of_63 ?_
  rw [show nI s' * 4 + nI x' = nI (4 * s' + x') by rw [k_4, pk_mul, nI_add, Nat.mul_comm]]
  refine xr_istore dX8_of_64 (Nat.le_of_ble_eq_true rfl) ?_
  show xT _ _ _ 66 [_, _, _, _, _] _ _ _
  refine xr_iload3 dX8_of_66 rfl ?_
  refine xr_if_ne 83 dX8_of_67 (by decide) (fun h3 => ?_) (fun h3 => ?_)
  · have h3 : w' ≠ 0 := fun q => h3 (by rw [q]; rfl)
    refine xr_aload0 dX8_of_83 rfl ?_
    refine xr_getR dX8_of_84 fk_8_33 lay_0 rfl ?_
    refine xr_getR dX8_of_87 fk_8_133 lay_21 rfl ?_
    refine xr_iload dX8_of_90 rfl ?_
    refine xr_ialdv (4 * s' + x') dX8_of_92 lay_23 rfl (by omega) (by decide) hgo ?_
    refine xr_iret dX8_of_93 rfl rfl ⟨by simp only; rw [if_neg h3], rfl, rfl⟩
  · have h3 : w' = 0 := (nI_eq (by omega) (by decide)).mp h3
    refine xr_aload0 dX8_of_70 rfl ?_
    refine xr_getR dX8_of_71 fk_8_33 lay_0 rfl ?_
    refine xr_getR dX8_of_74 fk_8_130 lay_21 rfl ?_
    refine xr_iload dX8_of_77 rfl ?_
    refine xr_ialdv (4 * s' + x') dX8_of_79 lay_22 rfl (by omega) (by decide) hwr ?_
    refine xr_goto 93 dX8_of_80 (by decide) ?_
    refine xr_iret dX8_of_93 rfl rfl ⟨by simp only; rw [if_pos h3], rfl, rfl⟩
theorem c8_many {S : xSt} (what : Int32) (h : cMc I S.2.1) : xCon G M_X8_many [.ref (G.1 0), .int what] I J (xpi fun v I' J' => v = sp_many S what ∧ I = I' ∧ J = J') := by
  refine x_ent (by decide) (Nat.le_of_ble_eq_true rfl) rfl ?_
  show xT _ _ _ 0 [_, _] _ _ _
  refine xr_iload1 dX8_many_0 rfl ?_
  by_cases h0 : what = 0
  · subst h0
    refine xr_tabIn 32 dX8_many_1 (by decide) (by decide) rfl (by decide) ?_
    refine xr_aload0 dX8_many_32 rfl ?_
    refine xr_getR dX8_many_33 fk_8_33 lay_0 rfl ?_
    refine xr_getIv dX8_many_36 fk_8_136 lay_21 rfl h.1.2.1 ?_
    refine xr_iret dX8_many_39 rfl rfl ⟨rfl, rfl, rfl⟩
  by_cases h1 : what = 1
  · subst h1
    refine xr_tabIn 40 dX8_many_1 (by decide) (by decide) rfl (by decide) ?_
    refine xr_aload0 dX8_many_40 rfl ?_
    refine xr_getR dX8_many_41 fk_8_33 lay_0 rfl ?_
    refine xr_getIv dX8_many_44 fk_8_102 lay_21 rfl h.1.2.2.1 ?_
    refine xr_iret dX8_many_47 rfl rfl ⟨rfl, rfl, rfl⟩
  by_cases h2 : what = 2
  · subst h2
    refine xr_tabIn 48 dX8_many_1 (by decide) (by decide) rfl (by decide) ?_
    have e : sp_many S 2 = b2 (mW S.2.1) := rfl
    rw [e]
    refine xr_aload0 dX8_many_48 rfl ?_
    refine xr_getR dX8_many_49 fk_8_33 lay_0 rfl ?_
    refine xr_getIv dX8_many_52 fk_8_139 lay_21 rfl h.2.2.1 ?_
    refine xr_if_eq 62 dX8_many_55 (by decide) (fun hb => ?_) (fun hb => ?_)
    · skip
      refine xr_ic0 dX8_many_62 ?_
      refine xr_iret dX8_many_63 rfl rfl ⟨by rw [b2_0.mp hb]; rfl, rfl, rfl⟩
    · skip
      refine xr_ic1 dX8_many_58 ?_
      refine xr_goto 63 dX8_many_59 (by decide) ?_
      refine xr_iret dX8_many_63 rfl rfl ⟨?_, rfl, rfl⟩
      cases hq : mW S.2.1 with
      | true => rfl
      | false => rw [hq] at hb; exact absurd rfl hb
  by_cases h3 : what = 3
  · subst h3
    refine xr_tabIn 64 dX8_many_1 (by decide) (by decide) rfl (by decide) ?_
    refine xr_aload0 dX8_many_64 rfl ?_
    refine xr_getR dX8_many_65 fk_8_33 lay_0 rfl ?_
    refine xr_getIv dX8_many_68 fk_8_142 lay_21 rfl h.2.2.2.1.1 ?_
    refine xr_iret dX8_many_71 rfl rfl ⟨rfl, rfl, rfl⟩
  refine xr_tabOut 72 dX8_many_1 ?_ (by decide) ?_
  · have n0 : what.toInt ≠ 0 := fun q => h0 (Int32.toInt_inj.mp q)
    have n1 : what.toInt ≠ 1 := fun q => h1 (Int32.toInt_inj.mp q)
    have n2 : what.toInt ≠ 2 := fun q => h2 (Int32.toInt_inj.mp q)
    have n3 : what.toInt ≠ 3 := fun q => h3 (Int32.toInt_inj.mp q)
    omega
  refine xr_icm1 dX8_many_72 ?_
  refine xr_iret dX8_many_73 rfl rfl ⟨by unfold sp_many; rw [if_neg h0, if_neg h1, if_neg h2, if_neg h3], rfl, rfl⟩
end C10
