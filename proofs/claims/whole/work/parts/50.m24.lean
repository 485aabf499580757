section M24
variable {G : xG} {I : xI} {J : xJ}
theorem c9_takeRows {S : xSt} (a b : Int32) (h : mIv I S) : xCon G M_X9_takeRows [.ref (G.1 77), .int a, .int b] I J (xpi fun v I' J' => v = sp_rows S a b ∧ (sp_rows S a b = 0 → mWhole S.2.1 ∧ mL1 I' S.2.1 (xrw S a) ∧ rOk S.2.1 (xrw S b) ∧ (xrw S b).length = (xrw S a).length ∧ I' 77 34 = nI (plc (mK S.2.1) (xrw S b))) ∧ mfx [85, 86, 88, 96] [11, 13, 14, 16, 28, 33, 34] I I' ∧ J = J') := by
  refine x_ent (by decide) (Nat.le_of_ble_eq_true rfl) rfl ?_
  show xT _ _ _ 0 [_, _, _, _] _ _ _
  refine xr_aload0 dX9_takeRows_0 rfl ?_
  refine xr_iload1 dX9_takeRows_1 rfl ?_
  refine xr_bip bi_10 dX9_takeRows_2 ?_
  refine xr_cVi [_, _] dX9_takeRows_4 (xcv_of cf_X9_takeRow ml_9_159 (by decide)) rfl lay_77 rfl rfl rfl (Nat.le_of_ble_eq_true rfl) (c9_takeRow h.2.1 a) (fun v I1 J1 hc => ?_)
  obtain ⟨rfl, hrw, f1, rfl⟩ := hc
  have f1' : mfx [85, 86, 88, 96] [11, 13, 14, 16, 28, 33, 34] I I1 := f1.mono (by simp) (by simp)
  refine xr_if_eq 24 dX9_takeRows_7 (by decide) (fun hr => ?_) (fun hr => ?_)
  · have hr := is_n hr
    have e : sp_rows S a b = -1 := by simp [sp_rows, levRow, hr]
    refine xr_icm1 dX9_takeRows_24 ?_
    refine xr_iret dX9_takeRows_25 rfl rfl ⟨by rw [e], fun q => by rw [e] at q; exact absurd q (by decide), f1', rfl⟩
  obtain ⟨r, hr⟩ := is_s hr
  obtain ⟨rl, rk, -⟩ := rowOf_some hr
  have hrw := hrw r hr
  have exr : xrw S a = r := by simp [xrw, hr]
  refine xr_aload0 dX9_takeRows_10 rfl ?_
  refine xr_aload0 dX9_takeRows_11 rfl ?_
  refine xr_getIv dX9_takeRows_12 fk_9_156 lay_77 rfl hrw.1 ?_
  refine xr_sip si_256 dX9_takeRows_15 ?_
  rw [k_256]
  refine xr_cVi [_, _] dX9_takeRows_18 (xcv_of cf_X9_rowsOf ml_9_223 (by decide)) rfl lay_77 rfl rfl rfl (Nat.le_of_ble_eq_true rfl) (c9_rowsOf (f1.mach h.2.1 (by decide) (by decide)) (nI r.length) (by decide) (by decide)) (fun v I2 J2 hc => ?_)
  obtain ⟨rfl, rfl, rfl⟩ := hc
  rw [lvl_len rl]
  by_cases hlv : mK S.2.1 ^ r.length ≤ 256
  rotate_left
  · rw [if_neg hlv]
    have e : sp_rows S a b = -1 := by simp [sp_rows, levRow, hr, hlv]
    refine xr_if_ge 26 dX9_takeRows_21 (by decide) (fun hge => ?_) (fun hge => ?_)
    · exact absurd hge (show ¬ (0 : Int32) ≤ -1 by decide)
    refine xr_icm1 dX9_takeRows_24 ?_
    refine xr_iret dX9_takeRows_25 rfl rfl ⟨by rw [e], fun q => by rw [e] at q; exact absurd q (by decide), f1', rfl⟩
  rw [if_pos hlv]
  refine xr_if_ge 26 dX9_takeRows_21 (by decide) (fun hge => ?_) (fun hge => ?_)
  rotate_left
  · exact absurd (nI_pos' (by omega)) hge
  refine xr_aload0 dX9_takeRows_26 rfl ?_
  refine xr_getIv dX9_takeRows_27 fk_9_156 lay_77 rfl hrw.1 ?_
  refine xr_istore3 dX9_takeRows_30 (Nat.le_of_ble_eq_true rfl) ?_
  show xT _ _ _ 31 [_, _, _, _] _ _ _
  refine xr_aload0 dX9_takeRows_31 rfl ?_
  refine xr_iload2 dX9_takeRows_32 rfl ?_
  refine xr_bip bi_10 dX9_takeRows_33 ?_
  refine xr_cVi [_, _] dX9_takeRows_35 (xcv_of cf_X9_takeRow ml_9_159 (by decide)) rfl lay_77 rfl rfl rfl (Nat.le_of_ble_eq_true rfl) (c9_takeRow (f1.mach h.2.1 (by decide) (by decide)) b) (fun v I2 J2 hc => ?_)
  obtain ⟨rfl, hrw2, f2, rfl⟩ := hc
  have f2' : mfx [85, 86, 88, 96] [11, 13, 14, 16, 28, 33, 34] I I2 := f1'.tr (f2.mono (by simp) (by simp))
  refine xr_if_eq 49 dX9_takeRows_38 (by decide) (fun hr2 => ?_) (fun hr2 => ?_)
  · have hr2 := is_n hr2
    have e : sp_rows S a b = -1 := by simp [sp_rows, levRow, hr, hlv, hr2]
    refine xr_icm1 dX9_takeRows_49 ?_
    refine xr_iret dX9_takeRows_50 rfl rfl ⟨by rw [e], fun q => by rw [e] at q; exact absurd q (by decide), f2', rfl⟩
  obtain ⟨r2, hr2⟩ := is_s hr2
  obtain ⟨rl2, rk2, -⟩ := rowOf_some hr2
  have hrw2 := hrw2 r2 hr2
  have exr2 : xrw S b = r2 := by simp [xrw, hr2]
  refine xr_aload0 dX9_takeRows_41 rfl ?_
  refine xr_getIv dX9_takeRows_42 fk_9_156 lay_77 rfl hrw2.1 ?_
  refine xr_iload3 dX9_takeRows_45 rfl ?_
  refine xr_icmp_eq 51 dX9_takeRows_46 (by decide) (fun hne => ?_) (fun hne => ?_)
  rotate_left
  · have hne : ¬ r2.length = r.length := fun q => hne (by rw [q])
    have e : sp_rows S a b = -1 := by simp [sp_rows, levRow, hr, hlv, hr2, hne]
    refine xr_icm1 dX9_takeRows_49 ?_
    refine xr_iret dX9_takeRows_50 rfl rfl ⟨by rw [e], fun q => by rw [e] at q; exact absurd q (by decide), f2', rfl⟩
  have heq : r2.length = r.length := (nI_eq (by omega) (by omega)).mp hne
  have e : sp_rows S a b = sp_lev S a := by simp [sp_rows, levRow, hr, hlv, hr2, heq]
  have hI2 : mIv I2 S := f2'.iv h (by decide) (by decide)
  refine xr_aload0 dX9_takeRows_51 rfl ?_
  refine xr_aload0 dX9_takeRows_52 rfl ?_
  refine xr_cVi [] dX9_takeRows_53 (xcv_of cf_X9_placeNow ml_9_232 (by decide)) rfl lay_77 rfl rfl rfl (Nat.le_of_ble_eq_true rfl) (c9_placeNow hI2.2.1 hrw2 (by omega)) (fun v I3 J3 hc => ?_)
  obtain ⟨rfl, rfl, rfl⟩ := hc
  refine xr_putI dX9_takeRows_56 fp_9_261 lay_77 rfl ?_
  generalize hI3 : va_up I2 77 (upd (I2 77) 34 (nI (plc (mK S.2.1) r2))) = I3
  have f3 : mfx [85, 86, 88, 96] [11, 13, 14, 16, 28, 33, 34] I I3 := by rw [← hI3]; exact f2'.up7 _ (by decide)
  have z3 : I3 77 34 = nI (plc (mK S.2.1) r2) := by rw [← hI3, up_same, upd_same]
  refine xr_aload0 dX9_takeRows_59 rfl ?_
  refine xr_iload1 dX9_takeRows_60 rfl ?_
  refine xr_cVi [_] dX9_takeRows_61 (xcv_of cf_X9_takeLevel ml_9_255 (by decide)) rfl lay_77 rfl rfl rfl (Nat.le_of_ble_eq_true rfl) (c9_takeLevel a (f3.iv h (by decide) (by decide))) (fun v I4 J4 hc => ?_)
  obtain ⟨rfl, h4, f4, rfl⟩ := hc
  refine xr_iret dX9_takeRows_64 rfl rfl ⟨by rw [e], fun q => ?_, f3.tr (f4.mono (by simp) (by simp)), rfl⟩
  rw [e] at q
  obtain ⟨q1, q2⟩ := h4 q
  exact ⟨q1, q2, by rw [exr2]; exact rk2, by rw [exr, exr2]; exact heq, by rw [exr2, f4.2 34 (by decide)]; exact z3⟩
/-- behind far, where it isn't refused: all that way needs -/
def mF2 (I : xI) (M : xMac) (r q : List Nat) : Prop := mWhole M ∧ mL1 I M r ∧ rOk M q ∧ q.length = r.length ∧ I 77 34 = nI (plc (mK M) q)
theorem c9_far {S : xSt} (a b : Int32) (h : mIv I S) : xCon G M_X9_far [.ref (G.1 77), .int a, .int b] I J (xpi fun v I' J' => v = sp_far S a b ∧ (sp_rows S a b = 0 → mF2 I' S.2.1 (xrw S a) (xrw S b)) ∧ mfx [85, 86, 88, 96, 99] [11, 13, 14, 16, 28, 33, 34] I I' ∧ J = J') := by
  refine x_ent (by decide) (Nat.le_of_ble_eq_true rfl) rfl ?_
  show xT _ _ _ 0 [_, _, _, _] _ _ _
  refine xr_aload0 dX9_far_0 rfl ?_
  refine xr_iload1 dX9_far_1 rfl ?_
  refine xr_iload2 dX9_far_2 rfl ?_
  refine xr_cVi [_, _] dX9_far_3 (xcv_of cf_X9_takeRows ml_9_264 (by decide)) rfl lay_77 rfl rfl rfl (Nat.le_of_ble_eq_true rfl) (c9_takeRows a b h) (fun v I1 J1 hc => ?_)
  obtain ⟨rfl, h1, f1, rfl⟩ := hc
  refine xr_istore3 dX9_far_6 (Nat.le_of_ble_eq_true rfl) ?_
  show xT _ _ _ 7 [_, _, _, _] _ _ _
  refine xr_iload3 dX9_far_7 rfl ?_
  refine xr_if_eq 13 dX9_far_8 (by decide) (fun hz => ?_) (fun hz => ?_)
  rotate_left
  · skip
    refine xr_iload3 dX9_far_11 rfl ?_
    refine xr_iret dX9_far_12 rfl rfl ⟨by rw [sp_far, if_neg hz], fun q => absurd q hz, f1.mono (by simp) (fun a h => h), rfl⟩
  obtain ⟨hwh, ⟨hlv, rk, rl, z33, lv⟩, rk2, hl2, z34⟩ := h1 hz
  have hfl := plc_lt _ rk
  have hf2 := plc_lt _ rk2
  rw [hl2] at hf2
  have e : sp_far S a b = (match dst S.2.1 (xrw S a).length (plc (mK S.2.1) (xrw S a)) (plc (mK S.2.1) (xrw S b)) with
    | none => -8
    | some d => nI d) := by
    rw [sp_far, if_pos hz]
    cases dst S.2.1 (xrw S a).length (plc (mK S.2.1) (xrw S a)) (plc (mK S.2.1) (xrw S b)) <;> rfl
  refine xr_aload0 dX9_far_13 rfl ?_
  refine xr_aload0 dX9_far_14 rfl ?_
  refine xr_getIv dX9_far_15 fk_9_252 lay_77 rfl z33 ?_
  refine xr_cVv [_] dX9_far_18 (xcv_of cf_X9_findFar ml_9_258 (by decide)) rfl lay_77 rfl rfl rfl (Nat.le_of_ble_eq_true rfl) (c9_findFar h.2.1.1 hwh hlv lv hfl) (fun I2 J2 hc => ?_)
  obtain ⟨d2, f2, rfl⟩ := hc
  have hd2 := d2 _ hf2
  have z34' : I2 77 34 = nI (plc (mK S.2.1) (xrw S b)) := by rw [f2.2 34 (by decide)]; exact z34
  have f12 : mfx [85, 86, 88, 96, 99] [11, 13, 14, 16, 28, 33, 34] I I2 := (f1.mono (by simp) (fun a h => h)).tr (f2.mono (by simp) (by simp))
  have hm2 : mF2 I2 S.2.1 (xrw S a) (xrw S b) := ⟨hwh, ⟨hlv, rk, rl, by rw [f2.2 33 (by decide)]; exact z33, by rw [f2.2 28 (by decide)]; exact lv.1, ⟨by rw [f2.2 11 (by decide)]; exact lv.2.1.1, by rw [f2.1 86 (by decide) (by decide)]; exact lv.2.1.2⟩, by rw [f2.1 96 (by decide) (by decide)]; exact lv.2.2⟩, rk2, hl2, z34'⟩
  refine xr_aload0 dX9_far_21 rfl ?_
  refine xr_getR dX9_far_22 fk_9_78 lay_77 rfl ?_
  refine xr_aload0 dX9_far_25 rfl ?_
  refine xr_getIv dX9_far_26 fk_9_261 lay_77 rfl z34' ?_
  refine xr_ialdv _ dX9_far_29 lay_99 rfl (by omega) (by decide) hd2 ?_
  cases hd : dst S.2.1 (xrw S a).length (plc (mK S.2.1) (xrw S a)) (plc (mK S.2.1) (xrw S b)) with
  | none =>
    rw [hd] at e
    refine xr_if_ge 38 dX9_far_30 (by decide) (fun hge => ?_) (fun hge => ?_)
    · exact absurd hge (show ¬ (0 : Int32) ≤ -1 by decide)
    refine xr_bip bi_m8 dX9_far_33 ?_
    refine xr_goto 47 dX9_far_35 (by decide) ?_
    refine xr_iret dX9_far_47 rfl rfl ⟨by rw [e], fun _ => hm2, f12, rfl⟩
  | some d =>
    rw [hd] at e hd2
    have hdl := isD_lt (rch_lt h.2.1.1 hwh (fun h' => mkp_lt h.2.1.1 hwh h') (mMarks_ok S.2.1) hfl) (dst_of hd)
    refine xr_if_ge 38 dX9_far_30 (by decide) (fun hge => ?_) (fun hge => ?_)
    rotate_left
    · exact absurd (nI_pos' (n := d) (by omega)) hge
    refine xr_aload0 dX9_far_38 rfl ?_
    refine xr_getR dX9_far_39 fk_9_78 lay_77 rfl ?_
    refine xr_aload0 dX9_far_42 rfl ?_
    refine xr_getIv dX9_far_43 fk_9_261 lay_77 rfl z34' ?_
    refine xr_ialdv _ dX9_far_46 lay_99 rfl (by omega) (by decide) hd2 ?_
    refine xr_iret dX9_far_47 rfl rfl ⟨by rw [e]; rfl, fun _ => hm2, f12, rfl⟩
end M24
