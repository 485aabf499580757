section M33
variable {G : xG} {I : xI} {J : xJ}
theorem ti_1 : (1 : Int32).toInt = 1 := by decide
theorem fall_d {d : Int32} (h : 1 ≤ d ∧ d ≤ 2) : ∃ d', (d' = 1 ∨ d' = 2) ∧ d = nI d' ∧ w2n d = d' := by
  obtain ⟨h1, h2⟩ := h
  rw [le_toInt, ti_1] at h1
  rw [le_toInt, ti_2] at h2
  have h0 : ¬ d < 0 := by rw [lt_toInt, ti_0]; omega
  refine ⟨w2n d, ?_, (nI_w2n h0).symm, rfl⟩
  unfold w2n
  omega
theorem fallF0_hp {M : xMac} (hM : mOk M) (hwh : mWhole M) : isHp M (fallF0 M) (fallF0 M) := by
  rw [fallF0_eq]
  exact ⟨wW_nodup M 1, fun w => ⟨fun h => wReach.self h, fun h => (wW_clo hM hwh).reach (fun a ha => ha) h⟩⟩
theorem c9_fall {S : xSt} (d : Int32) (h : mIv I S) : xCon G M_X9_fall [.ref (G.1 77), .int d] I J (xpi fun v I' J' => v = sp_fall S d ∧ mIv I' S ∧ (¬ sp_fall S d < 0 → ∃ F hs, fallOf S.2.1 (w2n d) = some F ∧ sp_fall S d = nI F.length ∧ mFl I' S.2.1 F hs) ∧ mfr I J I' J') := by
  refine x_ent (by decide) (Nat.le_of_ble_eq_true rfl) rfl ?_
  show xT _ _ _ 0 [_, _] _ _ _
  refine xr_iload1 dX9_fall_0 rfl ?_
  refine xr_i2l dX9_fall_1 ?_
  refine xr_lc1 dX9_fall_2 ?_
  refine xr_ldc2 cs_9_109 dX9_fall_3 ?_
  refine xr_cSi [_, _, _] dX9_fall_6 (xcs_of cf_X9_in ml_9_99 (by decide)) rfl rfl (Nat.le_of_ble_eq_true rfl) (c9_in _ _ _) (fun v I1 J1 hc => ?_)
  obtain ⟨rfl, rfl, rfl⟩ := hc
  rw [in_le (lo := 1) (hi := 2) (by decide) (by decide)]
  refine xr_if_ne 14 dX9_fall_9 (by decide) (fun hd => ?_) (fun hd => ?_)
  rotate_left
  · have hd := b2d hd
    have e : sp_fall S d = -1 := by rw [sp_fall, if_neg hd]
    refine xr_icm1 dX9_fall_12 ?_
    refine xr_iret dX9_fall_13 rfl rfl ⟨by rw [e], h, fun q => by rw [e] at q; exact absurd (by decide) q, mfr.rf⟩
  have hd := b2d' hd
  obtain ⟨d', hd', rfl, ew⟩ := fall_d hd
  refine xr_aload0 dX9_fall_14 rfl ?_
  refine xr_cVi [] dX9_fall_15 (xcv_of cf_X9_isWhole ml_9_133 (by decide)) rfl lay_77 rfl rfl rfl (Nat.le_of_ble_eq_true rfl) (c9_isWhole h.2.1) (fun v I1 J1 hc => ?_)
  obtain ⟨rfl, rfl, rfl⟩ := hc
  refine xr_if_ne 24 dX9_fall_18 (by decide) (fun hwh => ?_) (fun hwh => ?_)
  rotate_left
  · have hwh := b2_0.mp hwh
    have e : sp_fall S (nI d') = -5 := by rw [sp_fall, if_pos hd, if_pos hwh]
    refine xr_bip bi_m5 dX9_fall_21 ?_
    refine xr_iret dX9_fall_23 rfl rfl ⟨by rw [e], h, fun q => by rw [e] at q; exact absurd (by decide) q, mfr.rf⟩
  have hwh : mW S.2.1 = true := by
    cases hq : mW S.2.1 with
    | true => rfl
    | false => rw [hq] at hwh; exact absurd rfl hwh
  have hW := mW_iff.mp hwh
  refine xr_aload0 dX9_fall_24 rfl ?_
  refine xr_cVi [] dX9_fall_25 (xcv_of cf_X9_beginFall ml_9_305 (by decide)) rfl lay_77 rfl rfl rfl (Nat.le_of_ble_eq_true rfl) (c9_beginFall h.2.1 hW) (fun v I1 J1 hc => ?_)
  obtain ⟨rfl, F1, tk1, x1, f1, rfl⟩ := hc
  have hI1 : mIv I1 S := ⟨f1.sh h.1 (by decide), f1.mach h.2.1 (by decide) (by decide), h.2.2.keep x1 (by decide)⟩
  refine xr_if_eq 46 dX9_fall_28 (by decide) (fun h1 => ?_) (fun h1 => ?_)
  · exact absurd h1 (by decide)
  refine xr_aload0 dX9_fall_31 rfl ?_
  refine xr_iload1 dX9_fall_32 rfl ?_
  refine xr_cVi [_] dX9_fall_33 (xcv_of cf_X9_fallsAll ml_9_308 (by decide)) rfl lay_77 rfl rfl rfl (Nat.le_of_ble_eq_true rfl) (c9_fallsAll hd' hI1.2.1 hW tk1 F1 (fallF0_hp h.2.1.1 hW)) (fun v I2 J2 hc => ?_)
  obtain ⟨rfl, F2, x2, f2, rfl⟩ := hc
  have hI2 : mIv I2 S := ⟨f2.sh hI1.1 (by decide), f2.mach hI1.2.1 (by decide) (by decide), hI1.2.2.keep x2 (by decide)⟩
  have fr2 : mfr I J I2 J := fun q hq => by
    have a1 := f1.fr (J := J) (by decide) rfl q hq
    have a2 := f2.fr (J := J) (by decide) rfl q hq
    exact ⟨a2.1.trans a1.1, rfl⟩
  have efo : fallGo S.2.1 d' 21 0 (fallF0 S.2.1) (fallF0 S.2.1) = fallOf S.2.1 (w2n (nI d')) := by rw [ew]; rfl
  rw [efo] at F2 ⊢
  refine xr_if_eq 46 dX9_fall_36 (by decide) (fun h2 => ?_) (fun h2 => ?_)
  · have hn := is_n h2
    have e : sp_fall S (nI d') = -7 := by rw [sp_fall, if_pos hd, if_neg (by rw [hwh]; decide), hn]
    refine xr_bip bi_m7 dX9_fall_46 ?_
    refine xr_iret dX9_fall_48 rfl rfl ⟨by rw [e], hI2, fun q => by rw [e] at q; exact absurd (by decide) q, fr2⟩
  obtain ⟨F, hF⟩ := is_s h2
  have e : sp_fall S (nI d') = nI F.length := by rw [sp_fall, if_pos hd, if_neg (by rw [hwh]; decide), hF]
  obtain ⟨hs, hFl⟩ := F2 F hF
  refine xr_aload0 dX9_fall_39 rfl ?_
  refine xr_getIv dX9_fall_40 fk_9_299 lay_77 rfl hFl.2.2.2.2.2.2.1 ?_
  refine xr_goto 48 dX9_fall_43 (by decide) ?_
  refine xr_iret dX9_fall_48 rfl rfl ⟨by rw [e], hI2, fun q => ⟨F, hs, hF, e, hFl⟩, fr2⟩
theorem c9_fallen {S : xSt} (d i to : Int32) (h : mIv I S) : xCon G M_X9_fallen [.ref (G.1 77), .int d, .int i, .int to] I J (xpi fun v I' J' => v = (sp_fallen S d i to).1 ∧ mIv I' (sp_fallen S d i to).2 ∧ mfr I J I' J') := by
  refine x_ent (by decide) (Nat.le_of_ble_eq_true rfl) rfl ?_
  show xT _ _ _ 0 [_, _, _, _, _] _ _ _
  refine xr_iload3 dX9_fallen_0 rfl ?_
  refine xr_cSi [_] dX9_fallen_1 (xcs_of cf_X9_isSpot ml_9_137 (by decide)) rfl rfl (Nat.le_of_ble_eq_true rfl) (c9_isSpot _) (fun v I1 J1 hc => ?_)
  obtain ⟨rfl, rfl, rfl⟩ := hc
  refine xr_if_ne 9 dX9_fallen_4 (by decide) (fun ht => ?_) (fun ht => ?_)
  rotate_left
  · have ht := is_n ht
    refine xr_icm1 dX9_fallen_7 ?_
    have e : sp_fallen S d i to = (-1, S) := by unfold sp_fallen; rw [ht]
    rw [e]
    refine xr_iret dX9_fallen_8 rfl rfl ⟨rfl, h, mfr.rf⟩
  obtain ⟨t', ht⟩ := is_s ht
  obtain ⟨ht8, rfl⟩ := ix_some ht
  refine xr_aload0 dX9_fallen_9 rfl ?_
  refine xr_iload1 dX9_fallen_10 rfl ?_
  refine xr_cVi [_] dX9_fallen_11 (xcv_of cf_X9_fall ml_9_311 (by decide)) rfl lay_77 rfl rfl rfl (Nat.le_of_ble_eq_true rfl) (c9_fall d h) (fun v I1 J1 hc => ?_)
  obtain ⟨rfl, hI1, h1, fr1⟩ := hc
  refine xr_istore dX9_fallen_14 (Nat.le_of_ble_eq_true rfl) ?_
  show xT _ _ _ 16 [_, _, _, _, _] _ _ _
  refine xr_iload dX9_fallen_16 rfl ?_
  refine xr_if_ge 24 dX9_fallen_18 (by decide) (fun hz => ?_) (fun hz => ?_)
  rotate_left
  · have hz' : sp_fall S d < 0 := by
      rw [lt_toInt, ti_0]
      rw [le_toInt, ti_0] at hz
      omega
    refine xr_iload dX9_fallen_21 rfl ?_
    have e : sp_fallen S d i (nI t') = (sp_fall S d, S) := by unfold sp_fallen; rw [ht]; simp only [if_pos hz']
    rw [e]
    refine xr_iret dX9_fallen_23 rfl rfl ⟨rfl, hI1, fr1⟩
  have hz' : ¬ sp_fall S d < 0 := by
    rw [lt_toInt, ti_0]
    rw [le_toInt, ti_0] at hz
    omega
  obtain ⟨F, hs, hF, e, hFl⟩ := h1 hz'
  have h20 := hFl.2.2.2.2.2.2.2.1
  refine xr_iload2 dX9_fallen_24 rfl ?_
  refine xr_i2l dX9_fallen_25 ?_
  refine xr_lc0 dX9_fallen_26 ?_
  refine xr_iload dX9_fallen_27 rfl ?_
  refine xr_ic1 dX9_fallen_29 ?_
  refine xr_isub dX9_fallen_30 ?_
  refine xr_i2l dX9_fallen_31 ?_
  refine xr_cSi [_, _, _] dX9_fallen_32 (xcs_of cf_X9_in ml_9_99 (by decide)) rfl rfl (Nat.le_of_ble_eq_true rfl) (c9_in _ _ _) (fun v I2 J2 hc => ?_)
  obtain ⟨rfl, rfl, rfl⟩ := hc
  rw [in_ix (n := F.length) (by rw [e, Int32.toInt_toInt64, Int32.toInt_sub, nI_toInt (by omega), ti_1, Int.bmod_eq_of_le (by omega) (by omega)])]
  refine xr_if_ne 41 dX9_fallen_35 (by decide) (fun hi => ?_) (fun hi => ?_)
  rotate_left
  · have hi := is_n hi
    refine xr_bip bi_m8 dX9_fallen_38 ?_
    have e : sp_fallen S d i (nI t') = (-8, S) := by unfold sp_fallen; rw [ht]; simp only [if_neg hz', hF, hi]
    rw [e]
    refine xr_iret dX9_fallen_40 rfl rfl ⟨rfl, hI1, fr1⟩
  obtain ⟨i', hi⟩ := is_s hi
  obtain ⟨hi8, rfl⟩ := ix_some hi
  have e : sp_fallen S d (nI i') (nI t') = (nI (F.getD i' []).length, (S.1, S.2.1, va_up S.2.2 t' (F.getD i' []))) := by unfold sp_fallen; rw [ht]; simp only [if_neg hz', hF, hi]
  rw [e]
  obtain ⟨j, hj1, hj2⟩ := hFl.2.2.2.2.2.2.2.2 i' hi8
  have hjl : j < hs.length := by
    rcases Nat.lt_or_ge j hs.length with q | q
    · exact q
    · rw [List.getElem?_eq_none q] at hj2; cases hj2
  rw [List.getElem?_eq_getElem hjl] at hj2
  have hj2 := Option.some.inj hj2
  refine xr_aload0 dX9_fallen_41 rfl ?_
  refine xr_aload0 dX9_fallen_42 rfl ?_
  refine xr_getR dX9_fallen_43 fk_9_94 lay_77 rfl ?_
  refine xr_iload2 dX9_fallen_46 rfl ?_
  refine xr_ialdv i' dX9_fallen_47 lay_104 rfl (by omega) (by decide) hj1 ?_
  refine xr_iload3 dX9_fallen_48 rfl ?_
  refine xr_cVv [_, _] dX9_fallen_49 (xcv_of cf_X9_fromHeap ml_9_188 (by decide)) rfl lay_77 rfl rfl rfl (Nat.le_of_ble_eq_true rfl) (c9_fromHeap hFl.1 hjl (by omega)) (fun I3 J3 hc => ?_)
  obtain ⟨d3, x3, f3, rfl⟩ := hc
  have hgw := hFl.2.1.2 _ (List.getElem_mem hjl)
  rw [hj2] at d3 hgw
  rw [getD_lt hi8]
  refine xr_aload0 dX9_fallen_52 rfl ?_
  refine xr_getR dX9_fallen_53 fk_9_32 lay_77 rfl ?_
  refine xr_iload3 dX9_fallen_56 rfl ?_
  refine xr_ialdv _ dX9_fallen_57 lay_84 rfl (by omega) (by decide) d3.1 ?_
  refine xr_iret dX9_fallen_58 rfl rfl ⟨rfl, ⟨f3.sh hI1.1 (by decide), f3.mach hI1.2.1 (by decide) (by decide), hI1.2.2.set (x3.mono (by simp)) (W := []) (by simp) d3 hgw⟩, fun q hq => ?_⟩
  have a3 := f3.fr (J := J) (by decide) rfl q hq
  exact ⟨a3.1.trans (fr1 q hq).1, (fr1 q hq).2⟩
end M33
