section C42
variable {G : xG} {I : xI} {J : xJ}
theorem c8_fallen {S : xSt} (d i to : Int32) (hm : cMc I S.2.1) (hp : cSp I J S.2.1 S.2.2) (hsw : cSw I J S.2.1) : xCon G M_X8_fallen [.ref (G.1 0), .int d, .int i, .int to] I J (xpi fun v I' J' => v = (sp_fallen S d i to).1 ∧ (sp_fallen S d i to).2.1 = S.1 ∧ (sp_fallen S d i to).2.2.1 = S.2.1 ∧ cSp I' J' S.2.1 (sp_fallen S d i to).2.2.2 ∧ cSw I' J' S.2.1 ∧ cfx (12 :: 13 :: 14 :: 15 :: 16 :: 17 :: 18 :: 19 :: 20 :: [56, 57, 58, 59, 60, 61, 62, 63, 64, 65, 66, 67, 68, 69, 70, 71, 72, 73, 74, 75, 76]) I J I' J') := by
  refine x_ent (by decide) (Nat.le_of_ble_eq_true rfl) rfl ?_
  show xT _ _ _ 0 [_, _, _, _, _] _ _ _
  refine xr_iload3 dX8_fallen_0 rfl ?_
  refine xr_cSi [_] dX8_fallen_1 (xcs_of cf_X8_isSpot ml_8_145 (by decide)) rfl rfl (Nat.le_of_ble_eq_true rfl) (c8_isSpot to) (fun v I1 J1 hc => ?_)
  obtain ⟨rfl, rfl, rfl⟩ := hc
  refine xr_if_ne 9 dX8_fallen_4 (by decide) (fun ht => ?_) (fun ht => ?_)
  rotate_left
  · have ht := is_n ht
    have e : sp_fallen S d i to = (-1, S) := by unfold sp_fallen; rw [ht]
    rw [e]
    refine xr_icm1 dX8_fallen_7 ?_
    refine xr_iret dX8_fallen_8 rfl rfl ⟨rfl, rfl, rfl, hp, hsw, cfx.rf⟩
  obtain ⟨t', ht⟩ := is_s ht
  obtain ⟨ht8, rfl⟩ := ix_some ht
  refine xr_aload0 dX8_fallen_9 rfl ?_
  refine xr_getR dX8_fallen_10 fk_8_61 lay_0 rfl ?_
  refine xr_aload0 dX8_fallen_13 rfl ?_
  refine xr_getR dX8_fallen_14 fk_8_33 lay_0 rfl ?_
  refine xr_iload1 dX8_fallen_17 rfl ?_
  refine xr_cVi [_, _] dX8_fallen_18 (xcv_of cf_X6_gatherFallen ml_8_284 (by decide)) rfl lay_56 rfl rfl rfl (Nat.le_of_ble_eq_true rfl) (c6_gatherFallen hm hsw d) (fun v I1 J1 hc => ?_)
  obtain ⟨rfl, sw1, h1, f1⟩ := hc
  have p1 := f1.sp hp (by decide)
  refine xr_istore dX8_fallen_21 (Nat.le_of_ble_eq_true rfl) ?_
  show xT _ _ _ 23 [_, _, _, _, _] _ _ _
  refine xr_iload dX8_fallen_23 rfl ?_
  refine xr_if_ge 31 dX8_fallen_25 (by decide) (fun hz => ?_) (fun hz => ?_)
  rotate_left
  · have e : sp_fallen S d i (nI t') = (sp_gf S d, S) := by unfold sp_fallen; rw [ht]; simp only [if_pos (gf_n hz).1]; rw [(gf_n hz).2]
    rw [e]
    refine xr_iload dX8_fallen_28 rfl ?_
    refine xr_iret dX8_fallen_30 rfl rfl ⟨rfl, rfl, rfl, p1, sw1, f1.mono (by simp)⟩
  have hnz := gf_p hz
  obtain ⟨F, hF, ef, r1, r2, hs, w1, g1, r3⟩ := h1 hnz
  have K46 : ix i F.length = none → ∀ z4 : Int32, xT G M_X8_fallen (xMQ G (xpi fun v I' J' => v = (sp_fallen S d i (nI t')).1 ∧ (sp_fallen S d i (nI t')).2.1 = S.1 ∧ (sp_fallen S d i (nI t')).2.2.1 = S.2.1 ∧ cSp I' J' S.2.1 (sp_fallen S d i (nI t')).2.2.2 ∧ cSw I' J' S.2.1 ∧ cfx (12 :: 13 :: 14 :: 15 :: 16 :: 17 :: 18 :: 19 :: 20 :: [56, 57, 58, 59, 60, 61, 62, 63, 64, 65, 66, 67, 68, 69, 70, 71, 72, 73, 74, 75, 76]) I J I' J')) 46 [some (.ref (G.1 0)), some (.int d), some (.int i), some (.int (nI t')), some (.int z4)] [] I1 J1 := by
    intro hi z4
    have e : sp_fallen S d i (nI t') = (-8, S) := by unfold sp_fallen; rw [ht]; simp only [if_neg hnz, hF, hi]
    rw [e]
    refine xr_bip bi_m8 dX8_fallen_46 ?_
    refine xr_iret dX8_fallen_48 rfl rfl ⟨rfl, rfl, rfl, p1, sw1, f1.mono (by simp)⟩
  refine xr_iload2 dX8_fallen_31 rfl ?_
  refine xr_if_lt 46 dX8_fallen_32 (by decide) (fun h0 => ?_) (fun h0 => ?_)
  · rw [lt_toInt, ti_0] at h0
    exact K46 (ix_no (Or.inl h0)) _
  rw [lt_toInt, ti_0] at h0
  refine xr_iload2 dX8_fallen_35 rfl ?_
  refine xr_aload0 dX8_fallen_36 rfl ?_
  refine xr_getR dX8_fallen_37 fk_8_61 lay_0 rfl ?_
  refine xr_getIv dX8_fallen_40 fk_8_287 lay_56 rfl r2 ?_
  refine xr_icmp_lt 49 dX8_fallen_43 (by decide) (fun h2 => ?_) (fun h2 => ?_)
  rotate_left
  · rw [lt_toInt, nI_toInt (by omega)] at h2
    exact K46 (ix_no (Or.inr (by omega))) _
  rw [lt_toInt, nI_toInt (by omega)] at h2
  have hi := ix_in (n := F.length) h0 (by omega)
  obtain ⟨hil, hin⟩ := ix_some hi
  generalize i.toInt.toNat = i' at hi hil hin
  subst hin
  have e : sp_fallen S d (nI i') (nI t') = (nI (F.getD i' []).length, (S.1, S.2.1, va_up S.2.2 t' (F.getD i' []))) := by unfold sp_fallen; rw [ht]; simp only [if_neg hnz, hF, hi]
  rw [e, getD_lt hil]
  obtain ⟨j, hj1, hj2⟩ := r3 i' hil
  obtain ⟨hjl, hje⟩ := List.getElem?_eq_some_iff.mp hj2
  refine xr_aload0 dX8_fallen_49 rfl ?_
  refine xr_getR dX8_fallen_50 fk_8_61 lay_0 rfl ?_
  refine xr_getR dX8_fallen_53 fk_8_273 lay_56 rfl ?_
  refine xr_aload0 dX8_fallen_56 rfl ?_
  refine xr_getR dX8_fallen_57 fk_8_61 lay_0 rfl ?_
  refine xr_getR dX8_fallen_60 fk_8_290 lay_56 rfl ?_
  refine xr_iload2 dX8_fallen_63 rfl ?_
  refine xr_ialdv i' dX8_fallen_64 lay_74 rfl (by omega) (by decide) hj1 ?_
  show xT _ _ _ 65 _ _ _ _
  refine xr_aload0 dX8_fallen_65 rfl ?_
  refine xr_getR dX8_fallen_66 fk_8_26 lay_0 rfl ?_
  refine xr_cVv [_, _] dX8_fallen_69 (xcv_of cf_X4_load ml_8_280 (by decide)) rfl lay_57 rfl rfl rfl (Nat.le_of_ble_eq_true rfl) (c4_load isPl_57 w1 hjl (show isW 20 from rfl)) (fun I2 J2 hc => ?_)
  obtain ⟨d2, f2⟩ := hc
  rw [hje] at d2
  refine xr_aload0 dX8_fallen_72 rfl ?_
  refine xr_aload0 dX8_fallen_73 rfl ?_
  refine xr_getR dX8_fallen_74 fk_8_26 lay_0 rfl ?_
  refine xr_iload3 dX8_fallen_77 rfl ?_
  refine xr_cVi [_, _] dX8_fallen_78 (xcv_of cf_X8_bring ml_8_175 (by decide)) rfl lay_0 rfl rfl rfl (Nat.le_of_ble_eq_true rfl) (c8_bring d2 ht8) (fun v I3 J3 hc => ?_)
  obtain ⟨rfl, d3, f3⟩ := hc
  have f23 : cfx [3, 20, 12 + t'] I1 J1 I3 J3 := (f2.mono (by simp)).tr (f3.mono (by simp))
  have hgw : wGood S.2.1 F[i'] := g1 _ (List.mem_of_getElem? hj2)
  refine xr_iret dX8_fallen_81 rfl rfl ⟨rfl, rfl, rfl, p1.set d3 hgw f23, sw1.cg (fun a h1 h2 => f23 a (by simp only [List.mem_cons, List.not_mem_nil, or_false]; omega)), (f1.mono (by simp)).tr ?_⟩
  refine (f2.mono (by simp)).tr (f3.mono (fun a ha => ?_))
  have := List.mem_singleton.mp ha
  simp only [List.mem_cons]
  omega
end C42
