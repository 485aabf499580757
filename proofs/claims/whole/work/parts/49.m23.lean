section M23
variable {G : xG} {I : xI} {J : xJ}
theorem w_max : Cond.static Lib.Math.max.name ∈ xw ∧ Cond.initialized "java/lang/Math" ∈ xw ∧ Cond.code Lib.Math.max.name Lib.Math.max.code 2 (some .int) ∈ xw := ⟨cf_J9_max_7cf53.2, wi_J9, xt 677 (by decide +kernel) rfl⟩
theorem w_min : Cond.static Lib.Math.min.name ∈ xw ∧ Cond.initialized "java/lang/Math" ∈ xw ∧ Cond.code Lib.Math.min.name Lib.Math.min.code 2 (some .int) ∈ xw := ⟨cf_J9_min_7cf53.2, wi_J9, xt 824 (by decide +kernel) rfl⟩
theorem xr_max {F : xM} {Q : xQT} {pc ix : Nat} {lv : xL} {st : List Value} {x y : Int32} (hd : decode F.2.1 pc = .ok (.invokestatic ix, 3)) (hw : Cond.methodLink F.1.cls ix Lib.Math.max.name ∈ xw) (hR : 1 ≤ F.2.2.2.2.1.frames ∧ F.2.2.2.2.2.1 ≤ F.2.2.2.2.1.cells ∧ F.2.2.2.2.2.2 ≤ F.2.2.2.2.1.slots) (hlo : (st.map fun v => v.category).sum + 13 ≤ F.2.2.2.2.1.locals) (k : xT G F Q (pc + 3) lv (.int (if x < y then y else x) :: st) I J) : xT G F Q pc lv (.int y :: .int x :: st) I J := fun p l e s m args below meth c A C H locs ls hl hP hS =>
  va_mmax C.1 C.2.1 (C.2.2.1.trans hl.1.symm) C.2.2.2.1 (C.2.2.2.2.1 _ hw) (C.2.2.2.2.1 _ w_max.1) (C.2.2.2.2.1 _ w_max.2.1) (C.2.2.2.2.1 _ w_max.2.2) hR.1 hlo hR.2.1 hR.2.2 hd (k p l e s m args below meth c A C H locs ls hl hP hS)
theorem xr_min {F : xM} {Q : xQT} {pc ix : Nat} {lv : xL} {st : List Value} {x y : Int32} (hd : decode F.2.1 pc = .ok (.invokestatic ix, 3)) (hw : Cond.methodLink F.1.cls ix Lib.Math.min.name ∈ xw) (hR : 1 ≤ F.2.2.2.2.1.frames ∧ F.2.2.2.2.2.1 ≤ F.2.2.2.2.1.cells ∧ F.2.2.2.2.2.2 ≤ F.2.2.2.2.1.slots) (hlo : (st.map fun v => v.category).sum + 13 ≤ F.2.2.2.2.1.locals) (k : xT G F Q (pc + 3) lv (.int (if y < x then y else x) :: st) I J) : xT G F Q pc lv (.int y :: .int x :: st) I J := fun p l e s m args below meth c A C H locs ls hl hP hS =>
  va_mmin C.1 C.2.1 (C.2.2.1.trans hl.1.symm) C.2.2.2.1 (C.2.2.2.2.1 _ hw) (C.2.2.2.2.1 _ w_min.1) (C.2.2.2.2.1 _ w_min.2.1) (C.2.2.2.2.1 _ w_min.2.2) hR.1 hlo hR.2.1 hR.2.2 hd (k p l e s m args below meth c A C H locs ls hl hP hS)
def mL1 (I : xI) (M : xMac) (r : List Nat) : Prop := mK M ^ r.length ≤ 256 ∧ rOk M r ∧ r.length ≤ 10 ∧ I 77 33 = nI (plc (mK M) r) ∧ mLv I M r.length
theorem c9_takeLevel {S : xSt} (row : Int32) (h : mIv I S) : xCon G M_X9_takeLevel [.ref (G.1 77), .int row] I J (xpi fun v I' J' => v = sp_lev S row ∧ (sp_lev S row = 0 → mWhole S.2.1 ∧ mL1 I' S.2.1 (xrw S row)) ∧ mfx [85, 86, 88, 96] [11, 13, 14, 16, 28, 33] I I' ∧ J = J') := by
  refine x_ent (by decide) (Nat.le_of_ble_eq_true rfl) rfl ?_
  show xT _ _ _ 0 [_, _] _ _ _
  refine xr_aload0 dX9_takeLevel_0 rfl ?_
  refine xr_iload1 dX9_takeLevel_1 rfl ?_
  refine xr_bip bi_10 dX9_takeLevel_2 ?_
  refine xr_cVi [_, _] dX9_takeLevel_4 (xcv_of cf_X9_takeRow ml_9_159 (by decide)) rfl lay_77 rfl rfl rfl (Nat.le_of_ble_eq_true rfl) (c9_takeRow h.2.1 row) (fun v I1 J1 hc => ?_)
  obtain ⟨rfl, hrw, f1, rfl⟩ := hc
  have f1' : mfx [85, 86, 88, 96] [11, 13, 14, 16, 28, 33] I I1 := f1.mono (by simp) (by simp)
  refine xr_if_eq 24 dX9_takeLevel_7 (by decide) (fun hr => ?_) (fun hr => ?_)
  · have hr := is_n hr
    have e : sp_lev S row = -1 := by simp [sp_lev, levRow, hr]
    refine xr_icm1 dX9_takeLevel_24 ?_
    refine xr_iret dX9_takeLevel_25 rfl rfl ⟨by rw [e], fun q => by rw [e] at q; exact absurd q (by decide), f1', rfl⟩
  obtain ⟨r, hr⟩ := is_s hr
  obtain ⟨rl, rk, -⟩ := rowOf_some hr
  have hrw := hrw r hr
  have exr : xrw S row = r := by simp [xrw, hr]
  refine xr_aload0 dX9_takeLevel_10 rfl ?_
  refine xr_aload0 dX9_takeLevel_11 rfl ?_
  refine xr_getIv dX9_takeLevel_12 fk_9_156 lay_77 rfl hrw.1 ?_
  refine xr_sip si_256 dX9_takeLevel_15 ?_
  rw [k_256]
  refine xr_cVi [_, _] dX9_takeLevel_18 (xcv_of cf_X9_rowsOf ml_9_223 (by decide)) rfl lay_77 rfl rfl rfl (Nat.le_of_ble_eq_true rfl) (c9_rowsOf (f1.mach h.2.1 (by decide) (by decide)) (nI r.length) (by decide) (by decide)) (fun v I2 J2 hc => ?_)
  obtain ⟨rfl, rfl, rfl⟩ := hc
  rw [lvl_len rl]
  by_cases hlv : mK S.2.1 ^ r.length ≤ 256
  rotate_left
  · rw [if_neg hlv]
    have e : sp_lev S row = -1 := by simp [sp_lev, levRow, hr, hlv]
    refine xr_if_ge 26 dX9_takeLevel_21 (by decide) (fun hge => ?_) (fun hge => ?_)
    · exact absurd hge (show ¬ (0 : Int32) ≤ -1 by decide)
    refine xr_icm1 dX9_takeLevel_24 ?_
    refine xr_iret dX9_takeLevel_25 rfl rfl ⟨by rw [e], fun q => by rw [e] at q; exact absurd q (by decide), f1', rfl⟩
  rw [if_pos hlv]
  refine xr_if_ge 26 dX9_takeLevel_21 (by decide) (fun hge => ?_) (fun hge => ?_)
  rotate_left
  · exact absurd (nI_pos' (by omega)) hge
  refine xr_aload0 dX9_takeLevel_26 rfl ?_
  refine xr_cVi [] dX9_takeLevel_27 (xcv_of cf_X9_isWhole ml_9_133 (by decide)) rfl lay_77 rfl rfl rfl (Nat.le_of_ble_eq_true rfl) (c9_isWhole (f1.mach h.2.1 (by decide) (by decide))) (fun v I2 J2 hc => ?_)
  obtain ⟨rfl, rfl, rfl⟩ := hc
  refine xr_if_ne 36 dX9_takeLevel_30 (by decide) (fun hwh => ?_) (fun hwh => ?_)
  rotate_left
  · have hwh := b2_0.mp hwh
    have e : sp_lev S row = -5 := by simp [sp_lev, levRow, hr, hlv, hwh]
    refine xr_bip bi_m5 dX9_takeLevel_33 ?_
    refine xr_iret dX9_takeLevel_35 rfl rfl ⟨by rw [e], fun q => by rw [e] at q; exact absurd q (by decide), f1', rfl⟩
  have hwh : mW S.2.1 = true := by
    cases hq : mW S.2.1 with
    | true => rfl
    | false => rw [hq] at hwh; exact absurd rfl hwh
  have hwhole := mW_iff.mp hwh
  have e : sp_lev S row = 0 := by simp [sp_lev, levRow, hr, hlv, hwh]
  refine xr_aload0 dX9_takeLevel_36 rfl ?_
  refine xr_aload0 dX9_takeLevel_37 rfl ?_
  refine xr_cVi [] dX9_takeLevel_38 (xcv_of cf_X9_placeNow ml_9_232 (by decide)) rfl lay_77 rfl rfl rfl (Nat.le_of_ble_eq_true rfl) (c9_placeNow (f1.mach h.2.1 (by decide) (by decide)) hrw (by omega)) (fun v I2 J2 hc => ?_)
  obtain ⟨rfl, rfl, rfl⟩ := hc
  refine xr_putI dX9_takeLevel_41 fp_9_252 lay_77 rfl ?_
  generalize hI2 : va_up I1 77 (upd (I1 77) 33 (nI (plc (mK S.2.1) r))) = I2
  have f2 : mfx [85, 86, 88, 96] [11, 13, 14, 16, 28, 33] I I2 := by rw [← hI2]; exact f1'.up7 _ (by decide)
  have z2 : I2 77 33 = nI (plc (mK S.2.1) r) ∧ I2 77 16 = nI r.length := by
    rw [← hI2, up_same, upd_same, upd_ne _ _ (by decide)]
    exact ⟨rfl, hrw.1⟩
  refine xr_aload0 dX9_takeLevel_44 rfl ?_
  refine xr_aload0 dX9_takeLevel_45 rfl ?_
  refine xr_getIv dX9_takeLevel_46 fk_9_156 lay_77 rfl z2.2 ?_
  refine xr_cVv [_] dX9_takeLevel_49 (xcv_of cf_X9_findLevel ml_9_244 (by decide)) rfl lay_77 rfl rfl rfl (Nat.le_of_ble_eq_true rfl) (c9_findLevel (f2.mach h.2.1 (by decide) (by decide)) hwhole hlv) (fun I3 J3 hc => ?_)
  obtain ⟨l3, f3, rfl⟩ := hc
  refine xr_ic0 dX9_takeLevel_52 ?_
  refine xr_iret dX9_takeLevel_53 rfl rfl ⟨by rw [e], fun _ => ⟨hwhole, ?_⟩, f2.tr (f3.mono (by simp) (by simp)), rfl⟩
  rw [exr]
  exact ⟨hlv, rk, rl, by rw [f3.2 33 (by decide)]; exact z2.1, l3⟩
theorem c9_orbit {S : xSt} (row : Int32) (h : mIv I S) : xCon G M_X9_orbit [.ref (G.1 77), .int row] I J (xpi fun v I' J' => v = sp_orbit S row ∧ mIv I' S ∧ mfr I J I' J') := by
  refine x_ent (by decide) (Nat.le_of_ble_eq_true rfl) rfl ?_
  show xT _ _ _ 0 [_, _, _, _, _] _ _ _
  refine xr_aload0 dX9_orbit_0 rfl ?_
  refine xr_iload1 dX9_orbit_1 rfl ?_
  refine xr_cVi [_] dX9_orbit_2 (xcv_of cf_X9_takeLevel ml_9_255 (by decide)) rfl lay_77 rfl rfl rfl (Nat.le_of_ble_eq_true rfl) (c9_takeLevel row h) (fun v I1 J1 hc => ?_)
  obtain ⟨rfl, h2, f1, rfl⟩ := hc
  have hI1 := f1.iv h (by decide) (by decide)
  refine xr_istore2 dX9_orbit_5 (Nat.le_of_ble_eq_true rfl) ?_
  show xT _ _ _ 6 [_, _, _, _, _] _ _ _
  refine xr_iload2 dX9_orbit_6 rfl ?_
  refine xr_if_eq 12 dX9_orbit_7 (by decide) (fun hz => ?_) (fun hz => ?_)
  rotate_left
  · skip
    refine xr_iload2 dX9_orbit_10 rfl ?_
    refine xr_iret dX9_orbit_11 rfl rfl ⟨by rw [sp_orbit, if_neg hz], hI1, f1.fr (by decide) rfl⟩
  obtain ⟨hwh, hlv, rk, rl, z33, lv⟩ := h2 hz
  have hfl := plc_lt _ rk
  have e : sp_orbit S row = nI (orbN S.2.1 (xrw S row).length (plc (mK S.2.1) (xrw S row))) := by rw [sp_orbit, if_pos hz]
  rw [hz]
  generalize xrw S row = r at hlv rk rl z33 lv hfl e
  refine xr_aload0 dX9_orbit_12 rfl ?_
  refine xr_aload0 dX9_orbit_13 rfl ?_
  refine xr_getIv dX9_orbit_14 fk_9_252 lay_77 rfl z33 ?_
  refine xr_cVv [_] dX9_orbit_17 (xcv_of cf_X9_findFar ml_9_258 (by decide)) rfl lay_77 rfl rfl rfl (Nat.le_of_ble_eq_true rfl) (c9_findFar h.2.1.1 hwh hlv lv hfl) (fun I2 J2 hc => ?_)
  obtain ⟨d2, f2, rfl⟩ := hc
  have f12 : mfx [85, 86, 88, 96, 99] [11, 13, 14, 16, 28, 33] I I2 := (f1.mono (by simp) (by simp)).tr (f2.mono (by simp) (by simp))
  have h28 : I2 77 28 = nI (mK S.2.1 ^ r.length) := by rw [f2.2 28 (by decide)]; exact lv.1
  have L : ∀ p, p ≤ mK S.2.1 ^ r.length → xT G M_X9_orbit (xMQ G (xpi fun v I' J' => v = sp_orbit S row ∧ mIv I' S ∧ mfr I J I' J')) 25 [some (.ref (G.1 77)), some (.int row), some (.int 0), some (.int (nI (cnt (fun p => (dst S.2.1 r.length (plc (mK S.2.1) r) p).isSome) p))), some (.int (nI p))] [] I2 J := by
    refine x_for (fun p hp IH => ?_)
    refine xr_iload dX9_orbit_25 rfl ?_
    refine xr_aload0 dX9_orbit_27 rfl ?_
    refine xr_getIv dX9_orbit_28 fk_9_226 lay_77 rfl h28 ?_
    refine xr_icmp_ge 58 dX9_orbit_31 (by decide) (fun hc => ?_) (fun hc => ?_)
    · have : p = mK S.2.1 ^ r.length := by have := nle hc; omega
      subst this
      refine xr_iload3 dX9_orbit_58 rfl ?_
      refine xr_iret dX9_orbit_59 rfl rfl ⟨by rw [e]; rfl, f12.iv h (by decide) (by decide), f12.fr (by decide) rfl⟩
    · have hpl := nlt hc
      have IH := IH hpl
      refine xr_iload3 dX9_orbit_34 rfl ?_
      refine xr_aload0 dX9_orbit_35 rfl ?_
      refine xr_getR dX9_orbit_36 fk_9_78 lay_77 rfl ?_
      refine xr_iload dX9_orbit_39 rfl ?_
      refine xr_ialdv _ dX9_orbit_41 lay_99 rfl (by omega) (by decide) (d2 p hpl) ?_
      have hst : cnt (fun p => (dst S.2.1 r.length (plc (mK S.2.1) r) p).isSome) (p + 1) = cnt (fun p => (dst S.2.1 r.length (plc (mK S.2.1) r) p).isSome) p + cond (dst S.2.1 r.length (plc (mK S.2.1) r) p).isSome 1 0 := rfl
      cases hd : dst S.2.1 r.length (plc (mK S.2.1) r) p with
      | none =>
        rw [hd] at hst
        refine xr_if_lt 49 dX9_orbit_42 (by decide) (fun hlt => ?_) (fun hlt => ?_)
        rotate_left
        · exact absurd (show (-1 : Int32) < 0 by decide) hlt
        refine xr_ic0 dX9_orbit_49 ?_
        refine xr_iadd dX9_orbit_50 ?_
        refine xr_istore3 dX9_orbit_51 (Nat.le_of_ble_eq_true rfl) ?_
        show xT _ _ _ 52 [_, _, _, _, _] _ _ _
        refine xr_iinc dX9_orbit_52 rfl ii_1 (Nat.le_of_ble_eq_true rfl) ?_
        show xT _ _ _ 55 [_, _, _, _, _] _ _ _
        refine xr_goto 25 dX9_orbit_55 (by decide) ?_
        rw [hst] at IH
        simp only [k_0, k_1, nI_add]
        exact IH
      | some d =>
        rw [hd] at hst
        have hdl := isD_lt (rch_lt h.2.1.1 hwh (fun h' => mkp_lt h.2.1.1 hwh h') (mMarks_ok S.2.1) hfl) (dst_of hd)
        refine xr_if_lt 49 dX9_orbit_42 (by decide) (fun hlt => ?_) (fun hlt => ?_)
        · exact absurd hlt (nI_pos (n := d) (by omega))
        refine xr_ic1 dX9_orbit_45 ?_
        refine xr_goto 50 dX9_orbit_46 (by decide) ?_
        refine xr_iadd dX9_orbit_50 ?_
        refine xr_istore3 dX9_orbit_51 (Nat.le_of_ble_eq_true rfl) ?_
        show xT _ _ _ 52 [_, _, _, _, _] _ _ _
        refine xr_iinc dX9_orbit_52 rfl ii_1 (Nat.le_of_ble_eq_true rfl) ?_
        show xT _ _ _ 55 [_, _, _, _, _] _ _ _
        refine xr_goto 25 dX9_orbit_55 (by decide) ?_
        rw [hst] at IH
        simp only [k_1, nI_add]
        exact IH
  refine xr_ic0 dX9_orbit_20 ?_
  refine xr_istore3 dX9_orbit_21 (Nat.le_of_ble_eq_true rfl) ?_
  show xT _ _ _ 22 [_, _, _, _, _] _ _ _
  refine xr_ic0 dX9_orbit_22 ?_
  refine xr_istore dX9_orbit_23 (Nat.le_of_ble_eq_true rfl) ?_
  show xT _ _ _ 25 [_, _, _, _, _] _ _ _
  exact L 0 (Nat.zero_le _)
theorem c9_reach {S : xSt} (row : Int32) (h : mIv I S) : xCon G M_X9_reach [.ref (G.1 77), .int row] I J (xpi fun v I' J' => v = sp_reach S row ∧ mIv I' S ∧ mfr I J I' J') := by
  refine x_ent (by decide) (Nat.le_of_ble_eq_true rfl) rfl ?_
  show xT _ _ _ 0 [_, _, _, _, _] _ _ _
  refine xr_aload0 dX9_reach_0 rfl ?_
  refine xr_iload1 dX9_reach_1 rfl ?_
  refine xr_cVi [_] dX9_reach_2 (xcv_of cf_X9_takeLevel ml_9_255 (by decide)) rfl lay_77 rfl rfl rfl (Nat.le_of_ble_eq_true rfl) (c9_takeLevel row h) (fun v I1 J1 hc => ?_)
  obtain ⟨rfl, h2, f1, rfl⟩ := hc
  have hI1 := f1.iv h (by decide) (by decide)
  refine xr_istore2 dX9_reach_5 (Nat.le_of_ble_eq_true rfl) ?_
  show xT _ _ _ 6 [_, _, _, _, _] _ _ _
  refine xr_iload2 dX9_reach_6 rfl ?_
  refine xr_if_eq 12 dX9_reach_7 (by decide) (fun hz => ?_) (fun hz => ?_)
  rotate_left
  · skip
    refine xr_iload2 dX9_reach_10 rfl ?_
    refine xr_iret dX9_reach_11 rfl rfl ⟨by rw [sp_reach, if_neg hz], hI1, f1.fr (by decide) rfl⟩
  obtain ⟨hwh, hlv, rk, rl, z33, lv⟩ := h2 hz
  have hfl := plc_lt _ rk
  have e : sp_reach S row = nI (mxd S.2.1 (xrw S row).length (plc (mK S.2.1) (xrw S row)) (mK S.2.1 ^ (xrw S row).length)) := by rw [sp_reach, if_pos hz]
  rw [hz]
  generalize xrw S row = r at hlv rk rl z33 lv hfl e
  refine xr_aload0 dX9_reach_12 rfl ?_
  refine xr_aload0 dX9_reach_13 rfl ?_
  refine xr_getIv dX9_reach_14 fk_9_252 lay_77 rfl z33 ?_
  refine xr_cVv [_] dX9_reach_17 (xcv_of cf_X9_findFar ml_9_258 (by decide)) rfl lay_77 rfl rfl rfl (Nat.le_of_ble_eq_true rfl) (c9_findFar h.2.1.1 hwh hlv lv hfl) (fun I2 J2 hc => ?_)
  obtain ⟨d2, f2, rfl⟩ := hc
  have f12 : mfx [85, 86, 88, 96, 99] [11, 13, 14, 16, 28, 33] I I2 := (f1.mono (by simp) (by simp)).tr (f2.mono (by simp) (by simp))
  have h28 : I2 77 28 = nI (mK S.2.1 ^ r.length) := by rw [f2.2 28 (by decide)]; exact lv.1
  have L : ∀ p, p ≤ mK S.2.1 ^ r.length → mxd S.2.1 r.length (plc (mK S.2.1) r) p ≤ 256 → xT G M_X9_reach (xMQ G (xpi fun v I' J' => v = sp_reach S row ∧ mIv I' S ∧ mfr I J I' J')) 25 [some (.ref (G.1 77)), some (.int row), some (.int 0), some (.int (nI (mxd S.2.1 r.length (plc (mK S.2.1) r) p))), some (.int (nI p))] [] I2 J := by
    refine x_for (fun p hp IH hb => ?_)
    refine xr_iload dX9_reach_25 rfl ?_
    refine xr_aload0 dX9_reach_27 rfl ?_
    refine xr_getIv dX9_reach_28 fk_9_226 lay_77 rfl h28 ?_
    refine xr_icmp_ge 52 dX9_reach_31 (by decide) (fun hc => ?_) (fun hc => ?_)
    · have : p = mK S.2.1 ^ r.length := by have := nle hc; omega
      subst this
      refine xr_iload3 dX9_reach_52 rfl ?_
      refine xr_iret dX9_reach_53 rfl rfl ⟨by rw [e], f12.iv h (by decide) (by decide), f12.fr (by decide) rfl⟩
    · have hpl := nlt hc
      have IH := IH hpl
      refine xr_iload3 dX9_reach_34 rfl ?_
      refine xr_aload0 dX9_reach_35 rfl ?_
      refine xr_getR dX9_reach_36 fk_9_78 lay_77 rfl ?_
      refine xr_iload dX9_reach_39 rfl ?_
      refine xr_ialdv _ dX9_reach_41 lay_99 rfl (by omega) (by decide) (d2 p hpl) ?_
      refine xr_max dX9_reach_42 ml_9_273 (by decide) (Nat.le_of_ble_eq_true rfl) ?_
      have hst : mxd S.2.1 r.length (plc (mK S.2.1) r) (p + 1) = max (mxd S.2.1 r.length (plc (mK S.2.1) r) p) ((dst S.2.1 r.length (plc (mK S.2.1) r) p).getD 0) := rfl
      rw [hst] at IH
      cases hd : dst S.2.1 r.length (plc (mK S.2.1) r) p with
      | none =>
        rw [hd] at IH
        have : ¬ nI (mxd S.2.1 r.length (plc (mK S.2.1) r) p) < oI none := by
          show ¬ _ < (-1 : Int32)
          rw [lt_toInt, ti_m1, nI_toInt (by omega)]
          omega
        rw [if_neg this]
        refine xr_istore3 dX9_reach_45 (Nat.le_of_ble_eq_true rfl) ?_
        show xT _ _ _ 46 [_, _, _, _, _] _ _ _
        refine xr_iinc dX9_reach_46 rfl ii_1 (Nat.le_of_ble_eq_true rfl) ?_
        show xT _ _ _ 49 [_, _, _, _, _] _ _ _
        refine xr_goto 25 dX9_reach_49 (by decide) ?_
        rw [k_1, nI_add]
        have em : max (mxd S.2.1 r.length (plc (mK S.2.1) r) p) ((none : Option Nat).getD 0) = mxd S.2.1 r.length (plc (mK S.2.1) r) p := Nat.max_eq_left (Nat.zero_le _)
        rw [em] at IH
        exact IH hb
      | some d =>
        rw [hd] at IH
        have hdl := isD_lt (rch_lt h.2.1.1 hwh (fun h' => mkp_lt h.2.1.1 hwh h') (mMarks_ok S.2.1) hfl) (dst_of hd)
        have em : (if nI (mxd S.2.1 r.length (plc (mK S.2.1) r) p) < oI (some d) then oI (some d) else nI (mxd S.2.1 r.length (plc (mK S.2.1) r) p)) = nI (max (mxd S.2.1 r.length (plc (mK S.2.1) r) p) d) := by
          show (if nI (mxd S.2.1 r.length (plc (mK S.2.1) r) p) < nI d then nI d else nI (mxd S.2.1 r.length (plc (mK S.2.1) r) p)) = _
          by_cases q : mxd S.2.1 r.length (plc (mK S.2.1) r) p < d
          · rw [if_pos ((nI_ltI (by omega) (by omega)).mpr q), Nat.max_eq_right (by omega)]
          · rw [if_neg (fun q2 => q ((nI_ltI (by omega) (by omega)).mp q2)), Nat.max_eq_left (by omega)]
        rw [em]
        refine xr_istore3 dX9_reach_45 (Nat.le_of_ble_eq_true rfl) ?_
        show xT _ _ _ 46 [_, _, _, _, _] _ _ _
        refine xr_iinc dX9_reach_46 rfl ii_1 (Nat.le_of_ble_eq_true rfl) ?_
        show xT _ _ _ 49 [_, _, _, _, _] _ _ _
        refine xr_goto 25 dX9_reach_49 (by decide) ?_
        rw [k_1, nI_add]
        exact IH (Nat.max_le.mpr ⟨hb, by show d ≤ 256; omega⟩)
  refine xr_ic0 dX9_reach_20 ?_
  refine xr_istore3 dX9_reach_21 (Nat.le_of_ble_eq_true rfl) ?_
  show xT _ _ _ 22 [_, _, _, _, _] _ _ _
  refine xr_ic0 dX9_reach_22 ?_
  refine xr_istore dX9_reach_23 (Nat.le_of_ble_eq_true rfl) ?_
  show xT _ _ _ 25 [_, _, _, _, _] _ _ _
  exact L 0 (Nat.zero_le _) (Nat.zero_le _)
end M23
