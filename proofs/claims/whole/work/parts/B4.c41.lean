section C41
variable {G : xG} {I : xI} {J : xJ}
theorem gf_n {S : xSt} {d : Int32} (h : ¬ 0 ≤ sp_gf S d) : sp_fall S d < 0 ∧ sp_gf S d = sp_fall S d := by
  unfold sp_gf at h ⊢
  split at h
  · rename_i q; exact ⟨q, by rw [if_pos q]⟩
  · exact absurd (by decide) h
theorem gf_p {S : xSt} {d : Int32} (h : 0 ≤ sp_gf S d) : ¬ sp_fall S d < 0 := fun q => by
  unfold sp_gf at h
  rw [if_pos q] at h
  rw [lt_toInt, ti_0] at q
  rw [le_toInt, ti_0] at h
  omega
theorem c8_fall {S : xSt} (d : Int32) (hm : cMc I S.2.1) (hsw : cSw I J S.2.1) : xCon G M_X8_fall [.ref (G.1 0), .int d] I J (xpi fun v I' J' => v = sp_fall S d ∧ cSw I' J' S.2.1 ∧ cfx [56, 57, 58, 59, 60, 61, 62, 63, 64, 65, 66, 67, 68, 69, 70, 71, 72, 73, 74, 75, 76] I J I' J') := by
  refine x_ent (by decide) (Nat.le_of_ble_eq_true rfl) rfl ?_
  show xT _ _ _ 0 [_, _, _] _ _ _
  refine xr_aload0 dX8_fall_0 rfl ?_
  refine xr_getR dX8_fall_1 fk_8_61 lay_0 rfl ?_
  refine xr_aload0 dX8_fall_4 rfl ?_
  refine xr_getR dX8_fall_5 fk_8_33 lay_0 rfl ?_
  refine xr_iload1 dX8_fall_8 rfl ?_
  refine xr_cVi [_, _] dX8_fall_9 (xcv_of cf_X6_gatherFallen ml_8_284 (by decide)) rfl lay_56 rfl rfl rfl (Nat.le_of_ble_eq_true rfl) (c6_gatherFallen hm hsw d) (fun v I1 J1 hc => ?_)
  obtain ⟨rfl, sw1, h1, f1⟩ := hc
  refine xr_istore2 dX8_fall_12 (Nat.le_of_ble_eq_true rfl) ?_
  show xT _ _ _ 13 [_, _, _] _ _ _
  refine xr_iload2 dX8_fall_13 rfl ?_
  refine xr_if_ge 21 dX8_fall_14 (by decide) (fun hz => ?_) (fun hz => ?_)
  rotate_left
  · skip
    refine xr_iload2 dX8_fall_17 rfl ?_
    refine xr_goto 28 dX8_fall_18 (by decide) ?_
    refine xr_iret dX8_fall_28 rfl rfl ⟨(gf_n hz).2, sw1, f1⟩
  obtain ⟨F, hF, e, r1, r2, r3⟩ := h1 (gf_p hz)
  refine xr_aload0 dX8_fall_21 rfl ?_
  refine xr_getR dX8_fall_22 fk_8_61 lay_0 rfl ?_
  refine xr_getIv dX8_fall_25 fk_8_287 lay_56 rfl r2 ?_
  refine xr_iret dX8_fall_28 rfl rfl ⟨e.symm, sw1, f1⟩
end C41
