section C30
variable {G : xG} {I : xI} {J : xJ}
theorem bfs.dli {M : xMac} {n : Nat} {ok : Nat → Bool} {V : Nat → Prop} {f : Nat} {q : List Nat} {par tt dl : Nat → Nat} {h k : Nat} (b : bfs M n ok V f q par tt dl h k) : ∀ i, i < q.length → dl i ≤ i := by
  intro i
  induction i using x_lt with
  | h i IHi =>
    intro hi
    rcases Nat.eq_zero_or_pos i with e | e
    · rw [e, b.2.1.1]; exact Nat.le_refl _
    · obtain ⟨c1, -, -, -, -, c6⟩ := b.2.1.2 i e hi
      have := IHi (par i) c1 (by omega)
      omega
noncomputable def okA (M : xMac) : Nat → Bool := fun m => !false || mB M (m / 2)
theorem okA_t (M : xMac) (m : Nat) : okA M m = true := rfl
theorem cLv.fx {A : List Nat} {I I' : xI} {J J' : xJ} {M : xMac} (h : cLv I M) (f : cfx A I J I' J') (hA : ∀ a ∈ A, a < 27 ∨ 30 < a) : cLv I' M := h.cg (fun a h1 h2 => (f a (fun q => by have := hA a q; omega)).1)
theorem c8_walkFrom {M : xMac} (hm : cMc I M) (hwh : mWhole M) (hlv : cLv I M) {r : List Nat} (hr : rOk M r) (hrl : mK M ^ r.length ≤ 256) : xCon G M_X8_walkFrom [.ref (G.1 0), .int (nI (rowNum r)), .int (nI r.length)] I J (xpi fun v I' J' => (∃ q par tt dl, v = nI q.length ∧ bfs M r.length (okA M) (fun _ => False) (plc (mK M) r) q par tt dl q.length 0 ∧ bfM I' M (fun _ => -1) (mK M ^ r.length) q par tt dl) ∧ cLv I' M ∧ cfx [27, 28, 29, 30, 31, 32, 33, 34] I J I' J') := by
  have hM := hm.1.1
  have hK2 := hM.1
  have hpl := plc_lt r hr
  refine x_ent (by decide) (Nat.le_of_ble_eq_true rfl) rfl ?_
  show xT _ _ _ 0 [_, _, _] _ _ _
  refine xr_aload0 dX8_walkFrom_0 rfl ?_
  refine xr_getR dX8_walkFrom_1 fk_8_40 lay_0 rfl ?_
  refine xr_aload0 dX8_walkFrom_4 rfl ?_
  refine xr_getR dX8_walkFrom_5 fk_8_33 lay_0 rfl ?_
  refine xr_iload2 dX8_walkFrom_8 rfl ?_
  refine xr_cVv [_, _] dX8_walkFrom_9 (xcv_of cf_X2_build ml_8_223 (by decide)) rfl lay_27 rfl rfl rfl (Nat.le_of_ble_eq_true rfl) (c2_build hm hwh hrl hlv) (fun I1 J1 hc => ?_)
  obtain ⟨lv1, ⟨bt, hbt, tb1⟩, e1, rfl⟩ := hc
  have f1 : cfx [27, 28, 29, 30, 31, 32, 33, 34] I J I1 J := fun a ha => ⟨e1 a (fun q => ha (by rw [q]; simp)) (fun q => ha (by rw [q]; simp)) (fun q => ha (by rw [q]; simp)) (fun q => ha (by rw [q]; simp)), rfl⟩
  refine xr_aload0 dX8_walkFrom_12 rfl ?_
  refine xr_getR dX8_walkFrom_13 fk_8_40 lay_0 rfl ?_
  refine xr_cVv [] dX8_walkFrom_16 (xcv_of cf_X2_forgetRows ml_8_311 (by decide)) rfl lay_27 rfl rfl rfl (Nat.le_of_ble_eq_true rfl) c2_forgetRows (fun I2 J2 hc => ?_)
  obtain ⟨d2, e2, rfl⟩ := hc
  have m2 : cMc I2 M := (f1.mc hm (by decide)).cg (fun a h1 h2 => e2 a (by omega))
  have tb2 : cTb I2 M bt := fun j hj => by rw [e2 28 (by decide), e2 29 (by decide), e2 30 (by decide)]; exact tb1 j hj
  refine xr_aload0 dX8_walkFrom_19 rfl ?_
  refine xr_getR dX8_walkFrom_20 fk_8_40 lay_0 rfl ?_
  refine xr_aload0 dX8_walkFrom_23 rfl ?_
  refine xr_getR dX8_walkFrom_24 fk_8_33 lay_0 rfl ?_
  refine xr_iload2 dX8_walkFrom_27 rfl ?_
  refine xr_aload0 dX8_walkFrom_28 rfl ?_
  refine xr_getR dX8_walkFrom_29 fk_8_33 lay_0 rfl ?_
  refine xr_iload1 dX8_walkFrom_32 rfl ?_
  show xT _ _ _ 33 _ _ _ _
  refine xr_iload2 dX8_walkFrom_33 rfl ?_
  refine xr_cVi [_, _] dX8_walkFrom_34 (xcv_of cf_X3_rowIndex ml_8_243 (by decide)) rfl lay_21 rfl rfl rfl (Nat.le_of_ble_eq_true rfl) (c3_rowIndex m2.1 hr hrl) (fun v I3 J3 hc => ?_)
  obtain ⟨rfl, rfl, rfl⟩ := hc
  refine xr_ic0 dX8_walkFrom_37 ?_
  refine xr_cVi [_, _, _, _] dX8_walkFrom_38 (xcv_of cf_X2_spread ml_8_314 (by decide)) rfl lay_27 rfl rfl rfl (Nat.le_of_ble_eq_true rfl) (c2_spread m2 hwh hrl tb2 hbt hpl false (V := fun _ => False) (d0 := fun _ => -1) (fun p hp => d2 p (by omega)) (fun p _ => ⟨fun _ q => q, fun _ => by decide⟩) (fun q => q)) (fun v I3 J3 hc => ?_)
  obtain ⟨⟨q, par, tt, dl, rfl, b3, m3⟩, e3, rfl⟩ := hc
  refine xr_iret dX8_walkFrom_41 rfl rfl ⟨⟨q, par, tt, dl, rfl, b3, m3⟩, lv1.cg (fun a h1 h2 => by rw [e3 a (by simp only [List.mem_cons, List.not_mem_nil, or_false]; omega), e2 a (by omega)]), f1.tr (fun a ha => ⟨by rw [e3 a (fun q => ha (by simp at q ⊢; omega)), e2 a (fun q => ha (by rw [q]; simp))], rfl⟩)⟩
theorem lev_cases {S : xSt} {row : Int32} : (levRow (mK S.2.1) row = none ∧ sp_lev S row = -1) ∨ (∃ r, levRow (mK S.2.1) row = some r ∧ rowOf (mK S.2.1) row = some r ∧ mK S.2.1 ^ r.length ≤ 256 ∧ r.length ≤ 10 ∧ rOk S.2.1 r ∧ row = nI (rowNum r) ∧ xrw S row = r ∧ ((mW S.2.1 = false ∧ sp_lev S row = -5) ∨ (mW S.2.1 = true ∧ sp_lev S row = 0))) := by
  cases h : levRow (mK S.2.1) row with
  | none => exact Or.inl ⟨rfl, by simp [sp_lev, h]⟩
  | some r =>
    right
    obtain ⟨h1, h2⟩ := levRow_some h
    obtain ⟨a1, a2, a3⟩ := rowOf_some h1
    refine ⟨r, rfl, h1, h2, a1, a2, a3, by simp [xrw, h1], ?_⟩
    cases hw : mW S.2.1 with
    | false => exact Or.inl ⟨rfl, by simp [sp_lev, h, hw]⟩
    | true => exact Or.inr ⟨rfl, by simp [sp_lev, h, hw]⟩
theorem c8_orbit {S : xSt} (row : Int32) (hm : cMc I S.2.1) (hlv : cLv I S.2.1) : xCon G M_X8_orbit [.ref (G.1 0), .int row] I J (xpi fun v I' J' => v = sp_orbit S row ∧ cLv I' S.2.1 ∧ cfx [27, 28, 29, 30, 31, 32, 33, 34] I J I' J') := by
  refine x_ent (by decide) (Nat.le_of_ble_eq_true rfl) rfl ?_
  show xT _ _ _ 0 [_, _, _] _ _ _
  refine xr_aload0 dX8_orbit_0 rfl ?_
  refine xr_iload1 dX8_orbit_1 rfl ?_
  refine xr_cVi [_] dX8_orbit_2 (xcv_of cf_X8_levelOf ml_8_234 (by decide)) rfl lay_0 rfl rfl rfl (Nat.le_of_ble_eq_true rfl) (c8_levelOf hm.1 row) (fun v I1 J1 hc => ?_)
  obtain ⟨rfl, rfl, rfl⟩ := hc
  rcases lev_cases (S := S) (row := row) with ⟨h1, h2⟩ | ⟨r, h1, hro, hrl, hr10, hrk, rfl, hxr, h2⟩
  · rw [h1]
    refine xr_istore2 dX8_orbit_5 (Nat.le_of_ble_eq_true rfl) ?_
    show xT _ _ _ 6 [_, _, _] _ _ _
    refine xr_iload2 dX8_orbit_6 rfl ?_
    refine xr_if_ge 12 dX8_orbit_7 (by decide) (fun hz => ?_) (fun hz => ?_)
    · exact absurd hz (by decide)
    refine xr_icm1 dX8_orbit_10 ?_
    refine xr_iret dX8_orbit_11 rfl rfl ⟨by rw [sp_orbit, if_neg (by rw [h2]; decide), h2], hlv, cfx.rf⟩
  · rw [h1, show oI (Option.map List.length (some r)) = nI r.length from rfl]
    refine xr_istore2 dX8_orbit_5 (Nat.le_of_ble_eq_true rfl) ?_
    show xT _ _ _ 6 [_, _, _] _ _ _
    refine xr_iload2 dX8_orbit_6 rfl ?_
    refine xr_if_ge 12 dX8_orbit_7 (by decide) (fun hz => ?_) (fun hz => ?_)
    rotate_left
    · exact absurd (nI_pos' (by omega)) hz
    refine xr_aload0 dX8_orbit_12 rfl ?_
    refine xr_getR dX8_orbit_13 fk_8_33 lay_0 rfl ?_
    refine xr_getIv dX8_orbit_16 fk_8_139 lay_21 rfl hm.2.2.1 ?_
    refine xr_if_ne 25 dX8_orbit_19 (by decide) (fun hwh => ?_) (fun hwh => ?_)
    rotate_left
    · have hwh := b2_0.mp hwh
      rcases h2 with ⟨-, h2⟩ | ⟨h2, -⟩
      · skip
        refine xr_bip bi_m5 dX8_orbit_22 ?_
        refine xr_iret dX8_orbit_24 rfl rfl ⟨by rw [sp_orbit, if_neg (by rw [h2]; decide), h2], hlv, cfx.rf⟩
      · rw [h2] at hwh; cases hwh
    rcases h2 with ⟨h2, -⟩ | ⟨h2, h3⟩
    · rw [h2] at hwh; exact absurd rfl hwh
    refine xr_aload0 dX8_orbit_25 rfl ?_
    refine xr_iload1 dX8_orbit_26 rfl ?_
    refine xr_iload2 dX8_orbit_27 rfl ?_
    refine xr_cVi [_, _] dX8_orbit_28 (xcv_of cf_X8_walkFrom ml_8_237 (by decide)) rfl lay_0 rfl rfl rfl (Nat.le_of_ble_eq_true rfl) (c8_walkFrom hm (mW_iff.mp h2) hlv hrk hrl) (fun v I2 J2 hc => ?_)
    obtain ⟨⟨q, par, tt, dl, rfl, b, -⟩, lv2, f2⟩ := hc
    refine xr_iret dX8_orbit_31 rfl rfl ⟨by rw [sp_orbit, if_pos h3, hxr, b.orbNq (okA_t _)], lv2, f2⟩
theorem c8_reach {S : xSt} (row : Int32) (hm : cMc I S.2.1) (hlv : cLv I S.2.1) : xCon G M_X8_reach [.ref (G.1 0), .int row] I J (xpi fun v I' J' => v = sp_reach S row ∧ cLv I' S.2.1 ∧ cfx [27, 28, 29, 30, 31, 32, 33, 34] I J I' J') := by
  refine x_ent (by decide) (Nat.le_of_ble_eq_true rfl) rfl ?_
  show xT _ _ _ 0 [_, _, _, _] _ _ _
  refine xr_aload0 dX8_reach_0 rfl ?_
  refine xr_iload1 dX8_reach_1 rfl ?_
  refine xr_cVi [_] dX8_reach_2 (xcv_of cf_X8_levelOf ml_8_234 (by decide)) rfl lay_0 rfl rfl rfl (Nat.le_of_ble_eq_true rfl) (c8_levelOf hm.1 row) (fun v I1 J1 hc => ?_)
  obtain ⟨rfl, rfl, rfl⟩ := hc
  rcases lev_cases (S := S) (row := row) with ⟨h1, h2⟩ | ⟨r, h1, hro, hrl, hr10, hrk, rfl, hxr, h2⟩
  · rw [h1]
    refine xr_istore2 dX8_reach_5 (Nat.le_of_ble_eq_true rfl) ?_
    show xT _ _ _ 6 [_, _, _, _] _ _ _
    refine xr_iload2 dX8_reach_6 rfl ?_
    refine xr_if_ge 12 dX8_reach_7 (by decide) (fun hz => ?_) (fun hz => ?_)
    · exact absurd hz (by decide)
    refine xr_icm1 dX8_reach_10 ?_
    refine xr_iret dX8_reach_11 rfl rfl ⟨by rw [sp_reach, if_neg (by rw [h2]; decide), h2], hlv, cfx.rf⟩
  · rw [h1, show oI (Option.map List.length (some r)) = nI r.length from rfl]
    refine xr_istore2 dX8_reach_5 (Nat.le_of_ble_eq_true rfl) ?_
    show xT _ _ _ 6 [_, _, _, _] _ _ _
    refine xr_iload2 dX8_reach_6 rfl ?_
    refine xr_if_ge 12 dX8_reach_7 (by decide) (fun hz => ?_) (fun hz => ?_)
    rotate_left
    · exact absurd (nI_pos' (by omega)) hz
    refine xr_aload0 dX8_reach_12 rfl ?_
    refine xr_getR dX8_reach_13 fk_8_33 lay_0 rfl ?_
    refine xr_getIv dX8_reach_16 fk_8_139 lay_21 rfl hm.2.2.1 ?_
    refine xr_if_ne 25 dX8_reach_19 (by decide) (fun hwh => ?_) (fun hwh => ?_)
    rotate_left
    · have hwh := b2_0.mp hwh
      rcases h2 with ⟨-, h2⟩ | ⟨h2, -⟩
      · skip
        refine xr_bip bi_m5 dX8_reach_22 ?_
        refine xr_iret dX8_reach_24 rfl rfl ⟨by rw [sp_reach, if_neg (by rw [h2]; decide), h2], hlv, cfx.rf⟩
      · rw [h2] at hwh; cases hwh
    rcases h2 with ⟨h2, -⟩ | ⟨h2, h3⟩
    · rw [h2] at hwh; exact absurd rfl hwh
    refine xr_aload0 dX8_reach_25 rfl ?_
    refine xr_iload1 dX8_reach_26 rfl ?_
    refine xr_iload2 dX8_reach_27 rfl ?_
    refine xr_cVi [_, _] dX8_reach_28 (xcv_of cf_X8_walkFrom ml_8_237 (by decide)) rfl lay_0 rfl rfl rfl (Nat.le_of_ble_eq_true rfl) (c8_walkFrom hm (mW_iff.mp h2) hlv hrk hrl) (fun v I2 J2 hc => ?_)
    obtain ⟨⟨q, par, tt, dl, rfl, b, bm⟩, lv2, f2⟩ := hc
    have hl := b.len
    have hi : q.length - 1 < q.length := by omega
    obtain ⟨v1, v2, -⟩ := bm.1 _ hi
    have hqN := (b.1.2.2 _ (List.getElem_mem hi)).1
    refine xr_istore3 dX8_reach_31 (Nat.le_of_ble_eq_true rfl) ?_
    show xT _ _ _ 32 [_, _, _, _] _ _ _
    refine xr_aload0 dX8_reach_32 rfl ?_
    refine xr_getR dX8_reach_33 fk_8_40 lay_0 rfl ?_
    refine xr_getR dX8_reach_36 fk_8_240 lay_27 rfl ?_
    refine xr_aload0 dX8_reach_39 rfl ?_
    refine xr_getR dX8_reach_40 fk_8_40 lay_0 rfl ?_
    refine xr_getR dX8_reach_43 fk_8_253 lay_27 rfl ?_
    refine xr_iload3 dX8_reach_46 rfl ?_
    show xT _ _ _ 47 _ _ _ _
    refine xr_ic1 dX8_reach_47 ?_
    refine xr_isub dX8_reach_48 ?_
    rw [k_1, pk_sub (by omega)]
    refine xr_ialdv (q.length - 1) dX8_reach_49 lay_32 rfl (by omega) (by decide) v1 ?_
    refine xr_ialdv q[q.length-1] dX8_reach_50 lay_31 rfl (by omega) (by decide) v2 ?_
    refine xr_iret dX8_reach_51 rfl rfl ⟨by rw [sp_reach, if_pos h3, hxr, b.mxdq (okA_t _)], lv2, f2⟩
theorem c8_far {S : xSt} (a c : Int32) (hm : cMc I S.2.1) (hlv : cLv I S.2.1) : xCon G M_X8_far [.ref (G.1 0), .int a, .int c] I J (xpi fun v I' J' => v = sp_far S a c ∧ (∀ d, 0 < d → sp_far S a c = nI d → d < 2 ^ 31 → ∃ r r2 q par tt dl jg, a = nI (rowNum r) ∧ c = nI (rowNum r2) ∧ xrw S a = r ∧ xrw S c = r2 ∧ rowOf (mK S.2.1) c = some r2 ∧ rOk S.2.1 r2 ∧ r2.length = r.length ∧ mK S.2.1 ^ r.length ≤ 256 ∧ bfs S.2.1 r.length (okA S.2.1) (fun _ => False) (plc (mK S.2.1) r) q par tt dl q.length 0 ∧ bfM I' S.2.1 (fun _ => -1) (mK S.2.1 ^ r.length) q par tt dl ∧ q[jg]? = some (plc (mK S.2.1) r2) ∧ dl jg = d) ∧ cLv I' S.2.1 ∧ cfx [27, 28, 29, 30, 31, 32, 33, 34] I J I' J') := by
  have hM := hm.1.1
  have hK2 := hM.1
  have hneg : ∀ {v : Int32}, sp_far S a c = v → v < 0 → ∀ d, 0 < d → sp_far S a c = nI d → d < 2 ^ 31 → False := fun h1 h2 d _ h3 h4 => by
    rw [h1] at h3
    rw [h3] at h2
    exact nI_pos h4 h2
  have K22 : ∀ z3 : Int32, sp_far S a c = -1 → xT G M_X8_far (xMQ G (xpi (fun (v : Int32) (I' : xI) (J' : xJ) => v = sp_far S a c ∧ (∀ d, 0 < d → sp_far S a c = nI d → d < 2 ^ 31 → ∃ r r2 q par tt dl jg, a = nI (rowNum r) ∧ c = nI (rowNum r2) ∧ xrw S a = r ∧ xrw S c = r2 ∧ rowOf (mK S.2.1) c = some r2 ∧ rOk S.2.1 r2 ∧ r2.length = r.length ∧ mK S.2.1 ^ r.length ≤ 256 ∧ bfs S.2.1 r.length (okA S.2.1) (fun _ => False) (plc (mK S.2.1) r) q par tt dl q.length 0 ∧ bfM I' S.2.1 (fun _ => -1) (mK S.2.1 ^ r.length) q par tt dl ∧ q[jg]? = some (plc (mK S.2.1) r2) ∧ dl jg = d) ∧ cLv I' S.2.1 ∧ cfx [27, 28, 29, 30, 31, 32, 33, 34] I J I' J'))) 22 [some (.ref (G.1 0)), some (.int a), some (.int c), some (.int z3), none] [] I J := by
    intro z3 e
    refine xr_icm1 dX8_far_22 ?_
    refine xr_iret dX8_far_23 rfl rfl ⟨e.symm, fun d h1 h2 h3 => (hneg e (by decide) d h1 h2 h3).elim, hlv, cfx.rf⟩
  refine x_ent (by decide) (Nat.le_of_ble_eq_true rfl) rfl ?_
  show xT _ _ _ 0 [_, _, _, _, _] _ _ _
  refine xr_aload0 dX8_far_0 rfl ?_
  refine xr_iload1 dX8_far_1 rfl ?_
  refine xr_cVi [_] dX8_far_2 (xcv_of cf_X8_levelOf ml_8_234 (by decide)) rfl lay_0 rfl rfl rfl (Nat.le_of_ble_eq_true rfl) (c8_levelOf hm.1 a) (fun v I1 J1 hc => ?_)
  obtain ⟨rfl, rfl, rfl⟩ := hc
  rcases lev_cases (S := S) (row := a) with ⟨h1, h2⟩ | ⟨r, h1, hro, hrl, hr10, hrk, hra, hxr, h2⟩
  · rw [h1]
    refine xr_istore3 dX8_far_5 (Nat.le_of_ble_eq_true rfl) ?_
    show xT _ _ _ 6 [_, _, _, _, _] _ _ _
    refine xr_iload3 dX8_far_6 rfl ?_
    refine xr_if_lt 22 dX8_far_7 (by decide) (fun hz => ?_) (fun hz => ?_)
    rotate_left
    · exact absurd (by decide) hz
    exact K22 _ (by simp [sp_far, sp_rows, h1])
  · rw [h1, show oI (Option.map List.length (some r)) = nI r.length from rfl]
    refine xr_istore3 dX8_far_5 (Nat.le_of_ble_eq_true rfl) ?_
    show xT _ _ _ 6 [_, _, _, _, _] _ _ _
    refine xr_iload3 dX8_far_6 rfl ?_
    refine xr_if_lt 22 dX8_far_7 (by decide) (fun hz => ?_) (fun hz => ?_)
    · exact absurd hz (nI_pos (by omega))
    refine xr_aload0 dX8_far_10 rfl ?_
    refine xr_getR dX8_far_11 fk_8_33 lay_0 rfl ?_
    refine xr_iload2 dX8_far_14 rfl ?_
    refine xr_cVi [_] dX8_far_15 (xcv_of cf_X3_rowLength ml_8_179 (by decide)) rfl lay_21 rfl rfl rfl (Nat.le_of_ble_eq_true rfl) (c3_rowLength hm.1 c) (fun v I1 J1 hc => ?_)
    obtain ⟨rfl, rfl, rfl⟩ := hc
    rcases Option.eq_none_or_eq_some (rowOf (mK S.2.1) c) with hc2 | ⟨r2, hc2⟩
    · rw [show oI (Option.map List.length (rowOf (mK S.2.1) c)) = -1 by rw [hc2]; rfl]
      refine xr_iload3 dX8_far_18 rfl ?_
      refine xr_icmp_eq 24 dX8_far_19 (by decide) (fun he => ?_) (fun he => ?_)
      · have := congrArg Int32.toInt he
        rw [ti_m1, nI_toInt (by omega)] at this
        omega
      exact K22 _ (by simp [sp_far, sp_rows, h1, hc2])
    obtain ⟨r2l, r2k, r2e⟩ := rowOf_some hc2
    have hxr2 : xrw S c = r2 := by simp [xrw, hc2]
    rw [show oI (Option.map List.length (rowOf (mK S.2.1) c)) = nI r2.length by rw [hc2]; rfl]
    refine xr_iload3 dX8_far_18 rfl ?_
    refine xr_icmp_eq 24 dX8_far_19 (by decide) (fun he => ?_) (fun he => ?_)
    rotate_left
    · have he : ¬ r2.length = r.length := fun q => he (by rw [q])
      exact K22 _ (by simp [sp_far, sp_rows, h1, hc2, he])
    have he : r2.length = r.length := (nI_eq (by omega) (by omega)).mp he
    have hrw : sp_rows S a c = sp_lev S a := by simp [sp_rows, h1, hc2, he]
    refine xr_aload0 dX8_far_24 rfl ?_
    refine xr_getR dX8_far_25 fk_8_33 lay_0 rfl ?_
    refine xr_getIv dX8_far_28 fk_8_139 lay_21 rfl hm.2.2.1 ?_
    refine xr_if_ne 37 dX8_far_31 (by decide) (fun hwh => ?_) (fun hwh => ?_)
    rotate_left
    · have hwh := b2_0.mp hwh
      rcases h2 with ⟨-, h2⟩ | ⟨h2, -⟩
      · have e5 : sp_far S a c = -5 := by rw [sp_far, hrw, if_neg (by rw [h2]; decide), h2]
        refine xr_bip bi_m5 dX8_far_34 ?_
        refine xr_iret dX8_far_36 rfl rfl ⟨e5.symm, fun d h1 h2 h3 => (hneg e5 (by decide) d h1 h2 h3).elim, hlv, cfx.rf⟩
      · rw [h2] at hwh; cases hwh
    rcases h2 with ⟨h2, -⟩ | ⟨h2, h3⟩
    · rw [h2] at hwh; exact absurd rfl hwh
    have ef : sp_far S a c = match dst S.2.1 r.length (plc (mK S.2.1) r) (plc (mK S.2.1) r2) with
      | none => -8
      | some d => nI d := by
      rw [sp_far, hrw, if_pos h3, hxr, hxr2]
      cases dst S.2.1 r.length (plc (mK S.2.1) r) (plc (mK S.2.1) r2) <;> rfl
    have hwF := c8_walkFrom (G := G) (J := J) hm (mW_iff.mp h2) hlv hrk hrl
    rw [← hra] at hwF
    have hrI := fun (I2 : xI) (J2 : xJ) (m2 : cMc I2 S.2.1) => c3_rowIndex (G := G) (J := J2) m2.1 r2k (by rw [he]; exact hrl)
    rw [← r2e, he] at hrI
    have hp2 : plc (mK S.2.1) r2 < mK S.2.1 ^ r.length := by rw [← he]; exact plc_lt r2 r2k
    refine xr_aload0 dX8_far_37 rfl ?_
    refine xr_iload1 dX8_far_38 rfl ?_
    refine xr_iload3 dX8_far_39 rfl ?_
    refine xr_cVi [_, _] dX8_far_40 (xcv_of cf_X8_walkFrom ml_8_237 (by decide)) rfl lay_0 rfl rfl rfl (Nat.le_of_ble_eq_true rfl) (hwF) (fun v I2 J2 hc => ?_)
    obtain ⟨⟨q, par, tt, dl, rfl, b, bm⟩, lv2, f2⟩ := hc
    have hl := b.len
    refine xr_pop dX8_far_43 rfl ?_
    refine xr_aload0 dX8_far_44 rfl ?_
    refine xr_getR dX8_far_45 fk_8_40 lay_0 rfl ?_
    refine xr_getR dX8_far_48 fk_8_240 lay_27 rfl ?_
    refine xr_aload0 dX8_far_51 rfl ?_
    refine xr_getR dX8_far_52 fk_8_33 lay_0 rfl ?_
    refine xr_iload2 dX8_far_55 rfl ?_
    refine xr_iload3 dX8_far_56 rfl ?_
    show xT _ _ _ 57 _ _ _ _
    refine xr_cVi [_, _] dX8_far_57 (xcv_of cf_X3_rowIndex ml_8_243 (by decide)) rfl lay_21 rfl rfl rfl (Nat.le_of_ble_eq_true rfl) (hrI I2 J2 (f2.mc hm (by decide))) (fun v I3 J3 hc => ?_)
    obtain ⟨rfl, rfl, rfl⟩ := hc
    by_cases hmem : plc (mK S.2.1) r2 ∈ q
    · obtain ⟨jg, hjg, hje⟩ := List.getElem_of_mem hmem
      have hat : q[jg]? = some (plc (mK S.2.1) r2) := by rw [List.getElem?_eq_getElem hjg, hje]
      have vd : I2 31 (plc (mK S.2.1) r2) = nI (dl jg) := by rw [← hje]; exact (bm.1 jg hjg).2.1
      have hdl := b.dli jg hjg
      rw [b.dstq (okA_t _) hat] at ef
      refine xr_ialdv (plc (mK S.2.1) r2) dX8_far_60 lay_31 rfl (by omega) (by decide) vd ?_
      refine xr_istore dX8_far_61 (Nat.le_of_ble_eq_true rfl) ?_
      show xT _ _ _ 63 [_, _, _, _, _] _ _ _
      refine xr_iload dX8_far_63 rfl ?_
      refine xr_if_ge 73 dX8_far_65 (by decide) (fun hz => ?_) (fun hz => ?_)
      rotate_left
      · exact absurd (nI_pos' (by omega)) hz
      refine xr_iload dX8_far_73 rfl ?_
      refine xr_iret dX8_far_75 rfl rfl ⟨ef.symm, fun d h0 h1 h3 => ⟨r, r2, q, par, tt, dl, jg, hra, r2e, hxr, hxr2, hc2, r2k, he, hrl, b, bm, hat, ?_⟩, lv2, f2⟩
      rw [ef] at h1
      exact (nI_eq (by omega) h3).mp h1
    · have vd := bm.2 _ hp2 hmem
      rw [b.no (okA_t _) hmem] at ef
      refine xr_ialdv (plc (mK S.2.1) r2) dX8_far_60 lay_31 rfl (by omega) (by decide) vd ?_
      refine xr_istore dX8_far_61 (Nat.le_of_ble_eq_true rfl) ?_
      show xT _ _ _ 63 [_, _, _, _, _] _ _ _
      refine xr_iload dX8_far_63 rfl ?_
      refine xr_if_ge 73 dX8_far_65 (by decide) (fun hz => ?_) (fun hz => ?_)
      · exact absurd hz (show ¬ (0 : Int32) ≤ -1 by decide)
      refine xr_bip bi_m8 dX8_far_68 ?_
      refine xr_goto 75 dX8_far_70 (by decide) ?_
      refine xr_iret dX8_far_75 rfl rfl ⟨ef.symm, fun d h1 h2 h3 => (hneg ef (by decide) d h1 h2 h3).elim, lv2, f2⟩
theorem c2_markOfMove {M : xMac} {n f : Nat} {q : List Nat} {par tt dl : Nat → Nat} (hN : mK M ^ n ≤ 256) (b : bfs M n (okA M) (fun _ => False) f q par tt dl q.length 0) (bm : bfM I M (fun _ => -1) (mK M ^ n) q par tt dl) {jg g : Nat} (hg : q[jg]? = some g) {i : Nat} (hi : i < dl jg) : xCon G M_X2_markOfMove [.ref (G.1 27), .int (nI g), .int (nI (dl jg)), .int (nI i)] I J (xpi fun v I' J' => v = nI (mk_ M (tt (itr par (dl jg - i - 1) jg))) ∧ I = I' ∧ J = J') := by
  obtain ⟨hjl, hje⟩ := List.getElem?_eq_some_iff.mp hg
  have hl := b.len
  have hdl := b.dli jg hjl
  have hgd : ∀ k (hk : k < q.length), q.getD k 0 = q[k] := fun k hk => by rw [List.getD_eq_getElem?_getD, List.getElem?_eq_getElem hk]; rfl
  have L : ∀ e s, s + e = dl jg - 1 - i → xT G M_X2_markOfMove (xMQ G (xpi fun v I' J' => v = nI (mk_ M (tt (itr par (dl jg - i - 1) jg))) ∧ I = I' ∧ J = J')) 8 [some (.ref (G.1 27)), some (.int (nI g)), some (.int (nI (dl jg))), some (.int (nI i)), some (.int (nI (q.getD (itr par s jg) 0))), some (.int (nI (i + e)))] [] I J := by
    intro e
    induction e with
    | zero =>
      intro s hs
      obtain ⟨a1, a2⟩ := b.anc s jg hjl (by omega)
      obtain ⟨p0, p1, p2⟩ := b.dlp a1 (by omega)
      have hN2 := (b.1.2.2 _ (List.getElem_mem a1)).1
      have v34 := ((bm.1 _ a1).2.2 p0).2
      rw [hgd _ a1]
      refine xr_iload dX2_markOfMove_8 rfl ?_
      refine xr_iload3 dX2_markOfMove_10 rfl ?_
      refine xr_icmp_le 29 dX2_markOfMove_11 (by decide) (fun hc => ?_) (fun hc => ?_)
      rotate_left
      · exact absurd ((nI_leI (by omega) (by omega)).mpr (by omega)) hc
      refine xr_aload0 dX2_markOfMove_29 rfl ?_
      refine xr_getR dX2_markOfMove_30 fk_2_30 lay_27 rfl ?_
      refine xr_iload dX2_markOfMove_33 rfl ?_
      refine xr_ialdv (q[itr par s jg]) dX2_markOfMove_35 lay_34 rfl (by omega) (by decide) v34 ?_
      refine xr_iret dX2_markOfMove_36 rfl rfl ⟨by rw [show dl jg - i - 1 = s by omega], rfl, rfl⟩
    | succ e IH =>
      intro s hs
      have IH := IH (s + 1) (by omega)
      obtain ⟨a1, a2⟩ := b.anc s jg hjl (by omega)
      obtain ⟨p0, p1, p2⟩ := b.dlp a1 (by omega)
      have hN2 := (b.1.2.2 _ (List.getElem_mem a1)).1
      have v33 := ((bm.1 _ a1).2.2 p0).1
      rw [itr_succ] at IH
      rw [hgd _ a1]
      refine xr_iload dX2_markOfMove_8 rfl ?_
      refine xr_iload3 dX2_markOfMove_10 rfl ?_
      refine xr_icmp_le 29 dX2_markOfMove_11 (by decide) (fun hc => ?_) (fun hc => ?_)
      · have := (nI_leI (by omega) (by omega)).mp hc; omega
      refine xr_aload0 dX2_markOfMove_14 rfl ?_
      refine xr_getR dX2_markOfMove_15 fk_2_27 lay_27 rfl ?_
      refine xr_iload dX2_markOfMove_18 rfl ?_
      refine xr_ialdv (q[itr par s jg]) dX2_markOfMove_20 lay_33 rfl (by omega) (by decide) v33 ?_
      refine xr_istore dX2_markOfMove_21 (Nat.le_of_ble_eq_true rfl) ?_
      show xT _ _ _ 23 [_, _, _, _, _, _] _ _ _
      refine xr_iinc dX2_markOfMove_23 rfl ii_m1 (Nat.le_of_ble_eq_true rfl) ?_
      show xT _ _ _ 26 [_, _, _, _, _, _] _ _ _
      refine xr_goto 8 dX2_markOfMove_26 (by decide) ?_
      have ev : nI (i + (e + 1)) + -1 = nI (i + e) := by
        rw [show (-1 : Int32) = -(1 : Int32) from rfl, ← Int32.sub_eq_add_neg, k_1, pk_sub (by omega)]
        rfl
      rw [ev]
      exact IH
  have := L (dl jg - 1 - i) 0 (by omega)
  rw [show itr par 0 jg = jg from rfl, hgd _ hjl, hje, show i + (dl jg - 1 - i) = dl jg - 1 by omega] at this
  refine x_ent (by decide) (Nat.le_of_ble_eq_true rfl) rfl ?_
  show xT _ _ _ 0 [_, _, _, _, _, _] _ _ _
  refine xr_iload1 dX2_markOfMove_0 rfl ?_
  refine xr_istore dX2_markOfMove_1 (Nat.le_of_ble_eq_true rfl) ?_
  show xT _ _ _ 3 [_, _, _, _, _, _] _ _ _
  refine xr_iload2 dX2_markOfMove_3 rfl ?_
  refine xr_ic1 dX2_markOfMove_4 ?_
  refine xr_isub dX2_markOfMove_5 ?_
  rw [k_1, pk_sub (by omega)]
  refine xr_istore dX2_markOfMove_6 (Nat.le_of_ble_eq_true rfl) ?_
  show xT _ _ _ 8 [_, _, _, _, _, _] _ _ _
  exact this
theorem c8_way {S : xSt} (a c i : Int32) (hm : cMc I S.2.1) (hlv : cLv I S.2.1) : xCon G M_X8_way [.ref (G.1 0), .int a, .int c, .int i] I J (xpi fun v I' J' => v = sp_way S a c i ∧ cLv I' S.2.1 ∧ cfx [27, 28, 29, 30, 31, 32, 33, 34] I J I' J') := by
  have hM := hm.1.1
  refine x_ent (by decide) (Nat.le_of_ble_eq_true rfl) rfl ?_
  show xT _ _ _ 0 [_, _, _, _, _, _] _ _ _
  refine xr_aload0 dX8_way_0 rfl ?_
  refine xr_iload1 dX8_way_1 rfl ?_
  refine xr_iload2 dX8_way_2 rfl ?_
  refine xr_cVi [_, _] dX8_way_3 (xcv_of cf_X8_far ml_8_246 (by decide)) rfl lay_0 rfl rfl rfl (Nat.le_of_ble_eq_true rfl) (c8_far a c hm hlv) (fun v I1 J1 hc => ?_)
  obtain ⟨rfl, hfar, lv1, f1⟩ := hc
  have K18 : (i < 0 ∨ sp_far S a c ≤ i) → xT G M_X8_way (xMQ G (xpi fun v I' J' => v = sp_way S a c i ∧ cLv I' S.2.1 ∧ cfx [27, 28, 29, 30, 31, 32, 33, 34] I J I' J')) 18 [some (.ref (G.1 0)), some (.int a), some (.int c), some (.int i), some (.int (sp_far S a c)), none] [] I1 J1 := by
    intro h
    refine xr_ic0 dX8_way_18 ?_
    refine xr_iret dX8_way_19 rfl rfl ⟨by rw [sp_way, if_pos h], lv1, f1⟩
  refine xr_istore dX8_way_6 (Nat.le_of_ble_eq_true rfl) ?_
  show xT _ _ _ 8 [_, _, _, _, _, _] _ _ _
  refine xr_iload3 dX8_way_8 rfl ?_
  refine xr_if_lt 18 dX8_way_9 (by decide) (fun h0 => ?_) (fun h0 => ?_)
  · exact K18 (Or.inl h0)
  refine xr_iload3 dX8_way_12 rfl ?_
  refine xr_iload dX8_way_13 rfl ?_
  refine xr_icmp_lt 20 dX8_way_15 (by decide) (fun h1 => ?_) (fun h1 => ?_)
  rotate_left
  · refine K18 (Or.inr ?_)
    rw [lt_toInt] at h1
    rw [le_toInt]
    omega
  have hno : ¬ (i < 0 ∨ sp_far S a c ≤ i) := fun q => by
    rcases q with q | q
    · exact h0 q
    · rw [lt_toInt] at h1; rw [le_toInt] at q; omega
  have h0' : ¬ i < 0 := h0
  rw [lt_toInt] at h1
  rw [lt_toInt, ti_0] at h0
  have hfp : ¬ sp_far S a c < 0 := by rw [lt_toInt, ti_0]; omega
  have hfn : sp_far S a c = nI (w2n (sp_far S a c)) := (nI_w2n hfp).symm
  have hf31 : w2n (sp_far S a c) < 2 ^ 31 := by have := Int32.toInt_lt (sp_far S a c); unfold w2n; omega
  have hin : i = nI (w2n i) := (nI_w2n h0').symm
  have hilt : w2n i < w2n (sp_far S a c) := by unfold w2n; omega
  obtain ⟨r, r2, q, par, tt, dl, jg, hra, hrc, hxa, hxc, hro2, r2k, he, hrl, b, bm, hat, hdj⟩ := hfar _ (by omega) hfn hf31
  have e : sp_way S a c i = tok (wayAt S.2.1 r.length (plc (mK S.2.1) r2) (w2n i) (plc (mK S.2.1) r) (dl jg)) := by rw [sp_way, if_neg hno, hxa, hxc, hdj]
  have hjl := (List.getElem?_eq_some_iff.mp hat).1
  have hfd : sp_far S a c = nI (dl jg) := by rw [hdj]; exact hfn
  have hrI := c3_rowIndex (G := G) (J := J1) (f1.mc hm (by decide)).1 r2k (by rw [he]; exact hrl)
  rw [← hrc] at hrI
  have hmv := c2_markOfMove (G := G) (J := J1) hrl b bm hat (i := w2n i) (by rw [hdj]; exact hilt)
  rw [← hin, ← hfd] at hmv
  refine xr_aload0 dX8_way_20 rfl ?_
  refine xr_getR dX8_way_21 fk_8_33 lay_0 rfl ?_
  refine xr_iload2 dX8_way_24 rfl ?_
  refine xr_aload0 dX8_way_25 rfl ?_
  refine xr_getR dX8_way_26 fk_8_33 lay_0 rfl ?_
  refine xr_iload2 dX8_way_29 rfl ?_
  refine xr_cVi [_] dX8_way_30 (xcv_of cf_X3_rowLength ml_8_179 (by decide)) rfl lay_21 rfl rfl rfl (Nat.le_of_ble_eq_true rfl) (c3_rowLength (f1.mc hm (by decide)).1 c) (fun v I2 J2 hc => ?_)
  obtain ⟨rfl, rfl, rfl⟩ := hc
  rw [hro2, show oI (Option.map List.length (some r2)) = nI r2.length from rfl]
  refine xr_cVi [_, _] dX8_way_33 (xcv_of cf_X3_rowIndex ml_8_243 (by decide)) rfl lay_21 rfl rfl rfl (Nat.le_of_ble_eq_true rfl) (hrI) (fun v I2 J2 hc => ?_)
  obtain ⟨rfl, rfl, rfl⟩ := hc
  refine xr_istore dX8_way_36 (Nat.le_of_ble_eq_true rfl) ?_
  show xT _ _ _ 38 [_, _, _, _, _, _] _ _ _
  refine xr_aload0 dX8_way_38 rfl ?_
  refine xr_getR dX8_way_39 fk_8_40 lay_0 rfl ?_
  refine xr_iload dX8_way_42 rfl ?_
  refine xr_iload dX8_way_44 rfl ?_
  refine xr_iload3 dX8_way_46 rfl ?_
  refine xr_cVi [_, _, _] dX8_way_47 (xcv_of cf_X2_markOfMove ml_8_249 (by decide)) rfl lay_27 rfl rfl rfl (Nat.le_of_ble_eq_true rfl) (hmv) (fun v I2 J2 hc => ?_)
  obtain ⟨rfl, rfl, rfl⟩ := hc
  obtain ⟨a1, a2⟩ := b.anc (dl jg - w2n i - 1) jg hjl (by omega)
  obtain ⟨p0, p1, p2⟩ := b.dlp a1 (by omega)
  obtain ⟨-, -, t3, -⟩ := b.2.1.2 _ p0 a1
  have hmm : mk_ S.2.1 (tt (itr par (dl jg - w2n i - 1) jg)) ∈ mMarks S.2.1 := by rw [mk_at t3]; exact List.getElem_mem _
  refine xr_cSi [_] dX8_way_50 (xcs_of cf_X8_tokenOf ml_8_169 (by decide)) rfl rfl (Nat.le_of_ble_eq_true rfl) (c8_tokenOf (marks_16 hM hmm)) (fun v I2 J2 hc => ?_)
  obtain ⟨rfl, rfl, rfl⟩ := hc
  refine xr_iret dX8_way_53 rfl rfl ⟨?_, lv1, f1⟩
  rw [e]
  have hway := b.way (okA_t _) hat (w2n i) 0 (by omega)
  obtain ⟨z1, z2⟩ := b.anc (dl jg) jg hjl (Nat.le_refl _)
  have hz := b.dl0 z1 (by omega)
  rw [Nat.sub_zero, hz, getD_of b.1.1] at hway
  rw [hway]
end C30
