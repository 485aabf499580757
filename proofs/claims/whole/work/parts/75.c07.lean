section C07
variable {G : xG} {I : xI} {J : xJ}
theorem c8_isSheet (r : Int32) : xCon G M_X8_isSheet [.int r] I J (xpi fun v I' J' => v = b2 (ix r 4).isSome ∧ I = I' ∧ J = J') := by
  refine x_ent (by decide) (Nat.le_of_ble_eq_true rfl) rfl ?_
  show xT _ _ _ 0 [_] _ _ _
  refine xr_iload0 dX8_isSheet_0 rfl ?_
  refine xr_if_lt 13 dX8_isSheet_1 (by decide) (fun h0 => ?_) (fun h0 => ?_)
  · rw [lt_toInt, ti_0] at h0
    refine xr_ic0 dX8_isSheet_13 ?_
    refine xr_zret dX8_isSheet_14 rfl rfl (by simp) ⟨ix_b0 (Or.inl h0), rfl, rfl⟩
  rw [lt_toInt, ti_0] at h0
  refine xr_iload0 dX8_isSheet_4 rfl ?_
  refine xr_ic4 dX8_isSheet_5 ?_
  refine xr_icmp_ge 13 dX8_isSheet_6 (by decide) (fun h1 => ?_) (fun h1 => ?_)
  · rw [le_toInt, ti_4] at h1
    refine xr_ic0 dX8_isSheet_13 ?_
    refine xr_zret dX8_isSheet_14 rfl rfl (by simp) ⟨ix_b0 (Or.inr h1), rfl, rfl⟩
  rw [le_toInt, ti_4] at h1
  refine xr_ic1 dX8_isSheet_9 ?_
  refine xr_goto 14 dX8_isSheet_10 (by decide) ?_
  refine xr_zret dX8_isSheet_14 rfl rfl (by simp) ⟨ix_b1 h0 h1, rfl, rfl⟩
theorem ti_8 : (8 : Int32).toInt = 8 := by decide
theorem c8_isSpot (r : Int32) : xCon G M_X8_isSpot [.int r] I J (xpi fun v I' J' => v = b2 (ix r 8).isSome ∧ I = I' ∧ J = J') := by
  refine x_ent (by decide) (Nat.le_of_ble_eq_true rfl) rfl ?_
  show xT _ _ _ 0 [_] _ _ _
  refine xr_iload0 dX8_isSpot_0 rfl ?_
  refine xr_if_lt 14 dX8_isSpot_1 (by decide) (fun h0 => ?_) (fun h0 => ?_)
  · rw [lt_toInt, ti_0] at h0
    refine xr_ic0 dX8_isSpot_14 ?_
    refine xr_zret dX8_isSpot_15 rfl rfl (by simp) ⟨ix_b0 (Or.inl h0), rfl, rfl⟩
  rw [lt_toInt, ti_0] at h0
  refine xr_iload0 dX8_isSpot_4 rfl ?_
  refine xr_bip bi_8 dX8_isSpot_5 ?_
  refine xr_icmp_ge 14 dX8_isSpot_7 (by decide) (fun h1 => ?_) (fun h1 => ?_)
  · rw [le_toInt, ti_8] at h1
    refine xr_ic0 dX8_isSpot_14 ?_
    refine xr_zret dX8_isSpot_15 rfl rfl (by simp) ⟨ix_b0 (Or.inr h1), rfl, rfl⟩
  rw [le_toInt, ti_8] at h1
  refine xr_ic1 dX8_isSpot_10 ?_
  refine xr_goto 15 dX8_isSpot_11 (by decide) ?_
  refine xr_zret dX8_isSpot_15 rfl rfl (by simp) ⟨ix_b1 h0 h1, rfl, rfl⟩
theorem c8_isGoal (t : Int32) : xCon G M_X8_isGoal [.int t] I J (xpi fun v I' J' => v = b2 (decide (-1 ≤ t ∧ t ≤ 7)) ∧ I = I' ∧ J = J') := by
  refine x_ent (by decide) (Nat.le_of_ble_eq_true rfl) rfl ?_
  show xT _ _ _ 0 [_] _ _ _
  refine xr_iload0 dX8_isGoal_0 rfl ?_
  refine xr_icm1 dX8_isGoal_1 ?_
  refine xr_icmp_lt 15 dX8_isGoal_2 (by decide) (fun h0 => ?_) (fun h0 => ?_)
  · rw [lt_toInt, ti_m1] at h0
    refine xr_ic0 dX8_isGoal_15 ?_
    refine xr_zret dX8_isGoal_16 rfl rfl (by simp) ⟨b2_N (by rw [le_toInt, le_toInt, ti_m1, ti_7]; omega), rfl, rfl⟩
  rw [lt_toInt, ti_m1] at h0
  refine xr_iload0 dX8_isGoal_5 rfl ?_
  refine xr_bip bi_8 dX8_isGoal_6 ?_
  refine xr_icmp_ge 15 dX8_isGoal_8 (by decide) (fun h1 => ?_) (fun h1 => ?_)
  · rw [le_toInt, ti_8] at h1
    refine xr_ic0 dX8_isGoal_15 ?_
    refine xr_zret dX8_isGoal_16 rfl rfl (by simp) ⟨b2_N (by rw [le_toInt, le_toInt, ti_m1, ti_7]; omega), rfl, rfl⟩
  rw [le_toInt, ti_8] at h1
  refine xr_ic1 dX8_isGoal_11 ?_
  refine xr_goto 16 dX8_isGoal_12 (by decide) ?_
  refine xr_zret dX8_isGoal_16 rfl rfl (by simp) ⟨b2_P (by rw [le_toInt, le_toInt, ti_m1, ti_7]; omega), rfl, rfl⟩
theorem cSh.set {I I' : xI} {J J' : xJ} {sh : xSh} (h : cSh I sh) {r : Nat} {o : Option (Nat × Nat × (Nat → Int32))} (h1 : cS1 I' (4 + 2 * r) o) (f : cfx [4 + 2 * r, 4 + 2 * r + 1] I J I' J') : cSh I' (va_up sh r o) := fun r' hr' => by
  by_cases e : r' = r
  · subst e; rw [up_same]; exact h1
  · rw [va_up_ne _ _ e]
    exact (h r' hr').cg (f _ (by simp; omega)).1 (f _ (by simp; omega)).1
theorem sh_in {r : Nat} (hr : r < 4) {I I' : xI} {J J' : xJ} (f : cfx [4 + 2 * r, 4 + 2 * r + 1] I J I' J') : cfx [4, 5, 6, 7, 8, 9, 10, 11] I J I' J' := f.mono (fun a ha => by simp at ha ⊢; omega)
theorem c8_sheet {S : xSt} (r kd n : Int32) (h : cSh I S.1) : xCon G M_X8_sheet [.ref (G.1 0), .int r, .int kd, .int n] I J (xpi fun v I' J' => v = (sp_sheet S r kd n).1 ∧ cSh I' (sp_sheet S r kd n).2.1 ∧ cfx [4, 5, 6, 7, 8, 9, 10, 11] I J I' J') := by
  have K16 : sp_sheet S r kd n = (-1, S) → xT G M_X8_sheet (xMQ G (xpi fun v I' J' => v = (sp_sheet S r kd n).1 ∧ cSh I' (sp_sheet S r kd n).2.1 ∧ cfx [4, 5, 6, 7, 8, 9, 10, 11] I J I' J')) 16 [some (.ref (G.1 0)), some (.int r), some (.int kd), some (.int n)] [] I J := by
    intro e
    rw [e]
    refine xr_icm1 dX8_sheet_16 ?_
    refine xr_iret dX8_sheet_17 rfl rfl ⟨rfl, h, cfx.rf⟩
  refine x_ent (by decide) (Nat.le_of_ble_eq_true rfl) rfl ?_
  show xT _ _ _ 0 [_, _, _, _] _ _ _
  refine xr_iload1 dX8_sheet_0 rfl ?_
  refine xr_cSi [_] dX8_sheet_1 (xcs_of cf_X8_isSheet ml_8_66 (by decide)) rfl rfl (Nat.le_of_ble_eq_true rfl) (c8_isSheet r) (fun v I1 J1 hc => ?_)
  obtain ⟨rfl, rfl, rfl⟩ := hc
  refine xr_if_eq 16 dX8_sheet_4 (by decide) (fun hr => ?_) (fun hr => ?_)
  · have hr := is_n hr
    exact K16 (by unfold sp_sheet; rw [hr])
  obtain ⟨r', hr⟩ := is_s hr
  obtain ⟨hr4, rfl⟩ := ix_some hr
  refine xr_iload2 dX8_sheet_7 rfl ?_
  refine xr_if_lt 16 dX8_sheet_8 (by decide) (fun h0 => ?_) (fun h0 => ?_)
  · rw [lt_toInt, ti_0] at h0
    exact K16 (by unfold sp_sheet; rw [hr, ix_no (Or.inl h0)])
  rw [lt_toInt, ti_0] at h0
  refine xr_iload2 dX8_sheet_11 rfl ?_
  refine xr_ic2 dX8_sheet_12 ?_
  refine xr_icmp_le 18 dX8_sheet_13 (by decide) (fun h1 => ?_) (fun h1 => ?_)
  rotate_left
  · rw [le_toInt, ti_2] at h1
    exact K16 (by unfold sp_sheet; rw [hr, ix_no (Or.inr (by omega))])
  rw [le_toInt, ti_2] at h1
  have hk := ix_in (n := 3) h0 (by omega)
  obtain ⟨hk3, hkn⟩ := ix_some hk
  generalize kd.toInt.toNat = kd' at hk hk3 hkn
  subst hkn
  refine xr_iload3 dX8_sheet_18 rfl ?_
  refine xr_if_ge 25 dX8_sheet_19 (by decide) (fun h2 => ?_) (fun h2 => ?_)
  rotate_left
  · have h2 : n < 0 := by rw [lt_toInt, ti_0]; rw [le_toInt, ti_0] at h2; omega
    refine xr_bip bi_m4 dX8_sheet_22 ?_
    have e : sp_sheet S (nI r') (nI kd') n = (-4, S) := by unfold sp_sheet; rw [hr, hk]; simp only; rw [if_pos h2]
    rw [e]
    refine xr_iret dX8_sheet_24 rfl rfl ⟨rfl, h, cfx.rf⟩
  have h2' : ¬ n < 0 := by rw [lt_toInt, ti_0]; rw [le_toInt, ti_0] at h2; omega
  refine xr_iload3 dX8_sheet_25 rfl ?_
  refine xr_bip bi_40 dX8_sheet_26 ?_
  refine xr_icmp_le 33 dX8_sheet_28 (by decide) (fun h3 => ?_) (fun h3 => ?_)
  rotate_left
  · rw [le_toInt, show (40 : Int32).toInt = 40 by decide] at h3
    refine xr_icm1 dX8_sheet_31 ?_
    have e : sp_sheet S (nI r') (nI kd') n = (-1, S) := by unfold sp_sheet; rw [hr, hk]; simp only; rw [if_neg h2', ix_no (Or.inr (by omega))]
    rw [e]
    refine xr_iret dX8_sheet_32 rfl rfl ⟨rfl, h, cfx.rf⟩
  rw [le_toInt, show (40 : Int32).toInt = 40 by decide] at h3
  rw [le_toInt, ti_0] at h2
  have hn := ix_in (n := 41) (x := n) (by omega) (by omega)
  obtain ⟨hn3, hnn⟩ := ix_some hn
  generalize n.toInt.toNat = n' at hn hn3 hnn
  subst hnn
  have e : sp_sheet S (nI r') (nI kd') (nI n') = (1, (va_up S.1 r' (some (kd', n', fun _ => 0)), S.2)) := by unfold sp_sheet; rw [hr, hk]; simp only; rw [if_neg h2', hn]
  rw [e]
  have hS := isSt_r r' hr4
  refine xr_aload0 dX8_sheet_33 rfl ?_
  refine xr_getR dX8_sheet_34 fk_8_11 lay_0 rfl ?_
  refine xr_iload1 dX8_sheet_37 rfl ?_
  refine xr_aald3 r' dX8_sheet_38 lay_1 rfl hr4 (by decide) ?_
  refine xr_iload2 dX8_sheet_39 rfl ?_
  refine xr_iload3 dX8_sheet_40 rfl ?_
  refine xr_cVv [_, _] dX8_sheet_41 (xcv_of cf_X5_lay ml_8_70 (by decide)) rfl hS.1 rfl rfl rfl (Nat.le_of_ble_eq_true rfl) (c5_lay (isSt_r r' hr4) hk3 (by omega)) (fun I1 J1 hc => ?_)
  obtain ⟨h1, f1⟩ := hc
  refine xr_ic1 dX8_sheet_44 ?_
  refine xr_iret dX8_sheet_45 rfl rfl ⟨rfl, h.set h1 f1, sh_in hr4 f1⟩
theorem c8_cell {S : xSt} (r i v : Int32) (h : cSh I S.1) : xCon G M_X8_cell [.ref (G.1 0), .int r, .int i, .int v] I J (xpi fun u I' J' => u = (sp_cell S r i v).1 ∧ cSh I' (sp_cell S r i v).2.1 ∧ cfx [4, 5, 6, 7, 8, 9, 10, 11] I J I' J') := by
  refine x_ent (by decide) (Nat.le_of_ble_eq_true rfl) rfl ?_
  show xT _ _ _ 0 [_, _, _, _] _ _ _
  refine xr_iload1 dX8_cell_0 rfl ?_
  refine xr_cSi [_] dX8_cell_1 (xcs_of cf_X8_isSheet ml_8_66 (by decide)) rfl rfl (Nat.le_of_ble_eq_true rfl) (c8_isSheet r) (fun u I1 J1 hc => ?_)
  obtain ⟨rfl, rfl, rfl⟩ := hc
  refine xr_if_ne 9 dX8_cell_4 (by decide) (fun hr => ?_) (fun hr => ?_)
  rotate_left
  · have hr := is_n hr
    have e : sp_cell S r i v = (-1, S) := by unfold sp_cell; rw [hr]
    rw [e]
    refine xr_icm1 dX8_cell_7 ?_
    refine xr_iret dX8_cell_8 rfl rfl ⟨rfl, h, cfx.rf⟩
  obtain ⟨r', hr⟩ := is_s hr
  obtain ⟨hr4, rfl⟩ := ix_some hr
  have hS := isSt_r r' hr4
  have h1 := h r' hr4
  cases hq : S.1 r' with
  | none =>
    rw [hq] at h1
    have e : sp_cell S (nI r') i v = (-3, S) := by unfold sp_cell; rw [hr]; simp only; rw [hq]
    rw [e]
    refine xr_aload0 dX8_cell_9 rfl ?_
    refine xr_getR dX8_cell_10 fk_8_11 lay_0 rfl ?_
    refine xr_iload1 dX8_cell_13 rfl ?_
    refine xr_aald3 r' dX8_cell_14 lay_1 rfl hr4 (by decide) ?_
    refine xr_getIv dX8_cell_15 fk_8_74 hS.1 rfl h1 ?_
    refine xr_if_ne 24 dX8_cell_18 (by decide) (fun h0 => ?_) (fun h0 => ?_)
    · exact absurd rfl h0
    refine xr_bip bi_m3 dX8_cell_21 ?_
    refine xr_iret dX8_cell_23 rfl rfl ⟨rfl, h, cfx.rf⟩
  | some q =>
    rw [hq] at h1
    obtain ⟨ht, hs0⟩ := h1
    refine xr_aload0 dX8_cell_9 rfl ?_
    refine xr_getR dX8_cell_10 fk_8_11 lay_0 rfl ?_
    refine xr_iload1 dX8_cell_13 rfl ?_
    refine xr_aald3 r' dX8_cell_14 lay_1 rfl hr4 (by decide) ?_
    refine xr_getIv dX8_cell_15 fk_8_74 hS.1 rfl ht ?_
    refine xr_if_ne 24 dX8_cell_18 (by decide) (fun h0 => ?_) (fun h0 => ?_)
    rotate_left
    · exact absurd h0 (by decide)
    refine xr_aload0 dX8_cell_24 rfl ?_
    refine xr_getR dX8_cell_25 fk_8_11 lay_0 rfl ?_
    refine xr_iload1 dX8_cell_28 rfl ?_
    refine xr_aald3 r' dX8_cell_29 lay_1 rfl hr4 (by decide) ?_
    refine xr_iload2 dX8_cell_30 rfl ?_
    refine xr_cVi [_] dX8_cell_31 (xcv_of cf_X5_hasNumber ml_8_78 (by decide)) rfl hS.1 rfl rfl rfl (Nat.le_of_ble_eq_true rfl) (c5_hasNumber hS hs0.2.1 hs0.2.2.2.1 i) (fun u I1 J1 hc => ?_)
    obtain ⟨rfl, rfl, rfl⟩ := hc
    refine xr_if_ne 39 dX8_cell_34 (by decide) (fun hi => ?_) (fun hi => ?_)
    rotate_left
    · have hi := is_n hi
      have e : sp_cell S (nI r') i v = (-1, S) := by unfold sp_cell; rw [hr]; simp only; rw [hq]; simp only; rw [hi]
      rw [e]
      refine xr_icm1 dX8_cell_37 ?_
      refine xr_iret dX8_cell_38 rfl rfl ⟨rfl, h, cfx.rf⟩
    obtain ⟨i', hi⟩ := is_s hi
    obtain ⟨hi4, rfl⟩ := ix_some hi
    have e : sp_cell S (nI r') (nI i') v = (1, (va_up S.1 r' (some (q.1, q.2.1, upd q.2.2 i' (casts q.1 v))), S.2)) := by unfold sp_cell; rw [hr]; simp only; rw [hq]; simp only; rw [hi]
    rw [e]
    refine xr_aload0 dX8_cell_39 rfl ?_
    refine xr_getR dX8_cell_40 fk_8_11 lay_0 rfl ?_
    refine xr_iload1 dX8_cell_43 rfl ?_
    refine xr_aald3 r' dX8_cell_44 lay_1 rfl hr4 (by decide) ?_
    refine xr_iload2 dX8_cell_45 rfl ?_
    refine xr_iload3 dX8_cell_46 rfl ?_
    refine xr_cVv [_, _] dX8_cell_47 (xcv_of cf_X5_write ml_8_81 (by decide)) rfl hS.1 rfl rfl rfl (Nat.le_of_ble_eq_true rfl) (c5_write hS ht hs0 hi4 v) (fun I1 J1 hc => ?_)
    obtain ⟨h1, f1⟩ := hc
    have f1 : cfx [4 + 2 * r', 4 + 2 * r' + 1] I J I1 J1 := f1.mono (by simp)
    refine xr_ic1 dX8_cell_50 ?_
    refine xr_iret dX8_cell_51 rfl rfl ⟨rfl, h.set h1 f1, sh_in hr4 f1⟩
theorem c8_told {S : xSt} (r i : Int32) (h : cSh I S.1) : xCon G M_X8_told [.ref (G.1 0), .int r, .int i] I J (xpi fun u I' J' => u = sp_told S r i ∧ I = I' ∧ J = J') := by
  have K32 : sp_told S r i = -2147483648 → xT G M_X8_told (xMQ G (xpi fun u I' J' => u = sp_told S r i ∧ I = I' ∧ J = J')) 32 [some (.ref (G.1 0)), some (.int r), some (.int i)] [] I J := by
    intro e
    rw [e]
    refine xr_ldc cs_8_84 dX8_told_32 ?_
    refine xr_iret dX8_told_34 rfl rfl ⟨rfl, rfl, rfl⟩
  refine x_ent (by decide) (Nat.le_of_ble_eq_true rfl) rfl ?_
  show xT _ _ _ 0 [_, _, _] _ _ _
  refine xr_iload1 dX8_told_0 rfl ?_
  refine xr_cSi [_] dX8_told_1 (xcs_of cf_X8_isSheet ml_8_66 (by decide)) rfl rfl (Nat.le_of_ble_eq_true rfl) (c8_isSheet r) (fun u I1 J1 hc => ?_)
  obtain ⟨rfl, rfl, rfl⟩ := hc
  refine xr_if_eq 32 dX8_told_4 (by decide) (fun hr => ?_) (fun hr => ?_)
  · have hr := is_n hr
    exact K32 (by unfold sp_told; rw [hr])
  obtain ⟨r', hr⟩ := is_s hr
  obtain ⟨hr4, rfl⟩ := ix_some hr
  have hS := isSt_r r' hr4
  have h1 := h r' hr4
  cases hq : S.1 r' with
  | none =>
    rw [hq] at h1
    refine xr_aload0 dX8_told_7 rfl ?_
    refine xr_getR dX8_told_8 fk_8_11 lay_0 rfl ?_
    refine xr_iload1 dX8_told_11 rfl ?_
    refine xr_aald3 r' dX8_told_12 lay_1 rfl hr4 (by decide) ?_
    refine xr_getIv dX8_told_13 fk_8_74 hS.1 rfl h1 ?_
    refine xr_if_eq 32 dX8_told_16 (by decide) (fun h0 => ?_) (fun h0 => ?_)
    rotate_left
    · exact absurd rfl h0
    exact K32 (by unfold sp_told; rw [hr]; simp only; rw [hq])
  | some q =>
    rw [hq] at h1
    obtain ⟨ht, hs0⟩ := h1
    refine xr_aload0 dX8_told_7 rfl ?_
    refine xr_getR dX8_told_8 fk_8_11 lay_0 rfl ?_
    refine xr_iload1 dX8_told_11 rfl ?_
    refine xr_aald3 r' dX8_told_12 lay_1 rfl hr4 (by decide) ?_
    refine xr_getIv dX8_told_13 fk_8_74 hS.1 rfl ht ?_
    refine xr_if_eq 32 dX8_told_16 (by decide) (fun h0 => ?_) (fun h0 => ?_)
    · exact absurd h0 (by decide)
    refine xr_aload0 dX8_told_19 rfl ?_
    refine xr_getR dX8_told_20 fk_8_11 lay_0 rfl ?_
    refine xr_iload1 dX8_told_23 rfl ?_
    refine xr_aald3 r' dX8_told_24 lay_1 rfl hr4 (by decide) ?_
    refine xr_iload2 dX8_told_25 rfl ?_
    refine xr_cVi [_] dX8_told_26 (xcv_of cf_X5_hasNumber ml_8_78 (by decide)) rfl hS.1 rfl rfl rfl (Nat.le_of_ble_eq_true rfl) (c5_hasNumber hS hs0.2.1 hs0.2.2.2.1 i) (fun u I1 J1 hc => ?_)
    obtain ⟨rfl, rfl, rfl⟩ := hc
    refine xr_if_ne 35 dX8_told_29 (by decide) (fun hi => ?_) (fun hi => ?_)
    rotate_left
    · have hi := is_n hi
      exact K32 (by unfold sp_told; rw [hr]; simp only; rw [hq]; simp only; rw [hi])
    obtain ⟨i', hi⟩ := is_s hi
    obtain ⟨hi4, rfl⟩ := ix_some hi
    have e : sp_told S (nI r') (nI i') = q.2.2 i' := by unfold sp_told; rw [hr]; simp only; rw [hq]; simp only; rw [hi]
    rw [e]
    have h40 := hs0.2.1
    have hv := hs0.2.2.2.2 i' hi4
    refine xr_aload0 dX8_told_35 rfl ?_
    refine xr_getR dX8_told_36 fk_8_11 lay_0 rfl ?_
    refine xr_iload1 dX8_told_39 rfl ?_
    refine xr_aald3 r' dX8_told_40 lay_1 rfl hr4 (by decide) ?_
    refine xr_getR dX8_told_41 fk_8_85 hS.1 rfl ?_
    refine xr_iload2 dX8_told_44 rfl ?_
    refine xr_ialdv i' dX8_told_45 hS.2 rfl (by omega) (by first | decide | omega) hv ?_
    refine xr_iret dX8_told_46 rfl rfl ⟨rfl, rfl, rfl⟩
theorem c8_lose {S : xSt} (r : Int32) (h : cSh I S.1) : xCon G M_X8_lose [.ref (G.1 0), .int r] I J (xpi fun u I' J' => u = (sp_lose S r).1 ∧ cSh I' (sp_lose S r).2.1 ∧ cfx [4, 5, 6, 7, 8, 9, 10, 11] I J I' J') := by
  refine x_ent (by decide) (Nat.le_of_ble_eq_true rfl) rfl ?_
  show xT _ _ _ 0 [_, _] _ _ _
  refine xr_iload1 dX8_lose_0 rfl ?_
  refine xr_cSi [_] dX8_lose_1 (xcs_of cf_X8_isSheet ml_8_66 (by decide)) rfl rfl (Nat.le_of_ble_eq_true rfl) (c8_isSheet r) (fun u I1 J1 hc => ?_)
  obtain ⟨rfl, rfl, rfl⟩ := hc
  refine xr_if_ne 9 dX8_lose_4 (by decide) (fun hr => ?_) (fun hr => ?_)
  rotate_left
  · have hr := is_n hr
    have e : sp_lose S r = (-1, S) := by unfold sp_lose; rw [hr]
    rw [e]
    refine xr_icm1 dX8_lose_7 ?_
    refine xr_iret dX8_lose_8 rfl rfl ⟨rfl, h, cfx.rf⟩
  obtain ⟨r', hr⟩ := is_s hr
  obtain ⟨hr4, rfl⟩ := ix_some hr
  have hS := isSt_r r' hr4
  have h1 := h r' hr4
  cases hq : S.1 r' with
  | none =>
    rw [hq] at h1
    have e : sp_lose S (nI r') = (-3, S) := by unfold sp_lose; rw [hr]; simp only; rw [hq]
    rw [e]
    refine xr_aload0 dX8_lose_9 rfl ?_
    refine xr_getR dX8_lose_10 fk_8_11 lay_0 rfl ?_
    refine xr_iload1 dX8_lose_13 rfl ?_
    refine xr_aald3 r' dX8_lose_14 lay_1 rfl hr4 (by decide) ?_
    refine xr_getIv dX8_lose_15 fk_8_74 hS.1 rfl h1 ?_
    refine xr_if_ne 24 dX8_lose_18 (by decide) (fun h0 => ?_) (fun h0 => ?_)
    · exact absurd rfl h0
    refine xr_bip bi_m3 dX8_lose_21 ?_
    refine xr_iret dX8_lose_23 rfl rfl ⟨rfl, h, cfx.rf⟩
  | some q =>
    rw [hq] at h1
    obtain ⟨ht, hs0⟩ := h1
    refine xr_aload0 dX8_lose_9 rfl ?_
    refine xr_getR dX8_lose_10 fk_8_11 lay_0 rfl ?_
    refine xr_iload1 dX8_lose_13 rfl ?_
    refine xr_aald3 r' dX8_lose_14 lay_1 rfl hr4 (by decide) ?_
    refine xr_getIv dX8_lose_15 fk_8_74 hS.1 rfl ht ?_
    refine xr_if_ne 24 dX8_lose_18 (by decide) (fun h0 => ?_) (fun h0 => ?_)
    rotate_left
    · exact absurd h0 (by decide)
    have e : sp_lose S (nI r') = (1, (va_up S.1 r' none, S.2)) := by unfold sp_lose; rw [hr]; simp only; rw [hq]
    rw [e]
    refine xr_aload0 dX8_lose_24 rfl ?_
    refine xr_getR dX8_lose_25 fk_8_11 lay_0 rfl ?_
    refine xr_iload1 dX8_lose_28 rfl ?_
    refine xr_aald3 r' dX8_lose_29 lay_1 rfl hr4 (by decide) ?_
    refine xr_ic0 dX8_lose_30 ?_
    refine xr_putZ dX8_lose_31 fp_8_74 hS.1 rfl (by simp) ?_
    have f1 : cfx [4 + 2 * r', 4 + 2 * r' + 1] I J (va_up I (4 + 2 * r') (upd (I (4 + 2 * r')) 1 0)) J := cfx.rf.up _ (by simp)
    refine xr_ic1 dX8_lose_34 ?_
    refine xr_iret dX8_lose_35 rfl rfl ⟨rfl, h.set (by show va_up I (4 + 2 * r') (upd (I (4 + 2 * r')) 1 0) (4 + 2 * r') 1 = 0; rw [up_same, upd_same]) f1, sh_in hr4 f1⟩
end C07
