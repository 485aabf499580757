section C24
variable {G : xG} {I : xI} {J : xJ}
theorem c3_power {M : xMac} (h : cMb I M) (v : Int32) {most : Nat} (hm : most ≤ 256) (hm1 : 1 ≤ most) : xCon G M_X3_power [.ref (G.1 21), .int v, .int (nI most)] I J (xpi fun r I' J' => r = (match lvl (mK M) v most with
    | none => 0
    | some n => nI (mK M ^ n)) ∧ I = I' ∧ J = J') := by
  have hK2 := h.1.1
  have hK4 := h.1.2.1
  have L : 0 ≤ v.toInt → ∀ (f i : Nat), i + f = 9 → mK M ^ i ≤ most → (i : Int) ≤ v.toInt → xT G M_X3_power (xMQ G (xpi fun r I' J' => r = (match lvl (mK M) v most with | none => 0 | some n => nI (mK M ^ n)) ∧ I = I' ∧ J = J')) 11 [some (.ref (G.1 21)), some (.int v), some (.int (nI most)), some (.int (nI (mK M ^ i))), some (.int (nI i))] [] I J := by
    intro hv f
    induction f with
    | zero =>
      intro i hi hp
      have := lvl_8 hK2 (show mK M ^ i ≤ 256 by omega)
      omega
    | succ f IH =>
      intro i hi hp hiv
      refine xr_iload dX3_power_11 rfl ?_
      refine xr_iload1 dX3_power_13 rfl ?_
      refine xr_icmp_ge 37 dX3_power_14 (by decide) (fun hc => ?_) (fun hc => ?_)
      · rw [le_toInt, nI_toInt (by omega)] at hc
        have hvi : w2n v = i := by unfold w2n; omega
        have hl : lvl (mK M) v most = some i := by
          have := lvl_pos (K := mK M) (v := v) (most := most) hv (by rw [hvi]; exact hp)
          rw [hvi] at this
          exact this
        refine xr_iload3 dX3_power_37 rfl ?_
        refine xr_iret dX3_power_38 rfl rfl ⟨by rw [hl], rfl, rfl⟩
      rw [le_toInt, nI_toInt (by omega)] at hc
      have hpp : mK M ^ i * mK M = mK M ^ (i + 1) := (Nat.pow_succ _ _).symm
      have hpl : mK M ^ i * mK M ≤ 256 * 4 := Nat.mul_le_mul (by omega) hK4
      refine xr_iload3 dX3_power_17 rfl ?_
      refine xr_aload0 dX3_power_18 rfl ?_
      refine xr_getIv dX3_power_19 fk_3_31 lay_21 rfl h.2.1 ?_
      refine xr_imul dX3_power_22 ?_
      rw [pk_mul, hpp]
      refine xr_istore3 dX3_power_23 (Nat.le_of_ble_eq_true rfl) ?_
      show xT _ _ _ 24 [_, _, _, _, _] _ _ _
      refine xr_iload3 dX3_power_24 rfl ?_
      refine xr_iload2 dX3_power_25 rfl ?_
      refine xr_icmp_le 31 dX3_power_26 (by decide) (fun hle => ?_) (fun hle => ?_)
      rotate_left
      · have hgt : most < mK M ^ (i + 1) := by
          rcases Nat.lt_or_ge most (mK M ^ (i + 1)) with q | q
          · exact q
          · exact absurd ((nI_leI (by omega) (by omega)).mpr q) hle
        have hl : lvl (mK M) v most = none := by
          apply lvl_none
          right
          have : mK M ^ (i + 1) ≤ mK M ^ (w2n v) := Nat.pow_le_pow_right (by omega) (by unfold w2n; omega)
          omega
        refine xr_ic0 dX3_power_29 ?_
        refine xr_iret dX3_power_30 rfl rfl ⟨by rw [hl], rfl, rfl⟩
      have hle : mK M ^ (i + 1) ≤ most := (nI_leI (by omega) (by omega)).mp hle
      refine xr_iinc dX3_power_31 rfl ii_1 (Nat.le_of_ble_eq_true rfl) ?_
      show xT _ _ _ 34 [_, _, _, _, _] _ _ _
      refine xr_goto 11 dX3_power_34 (by decide) ?_
      rw [k_1, nI_add]
      exact IH (i + 1) (by omega) hle (by omega)
  refine x_ent (by decide) (Nat.le_of_ble_eq_true rfl) rfl ?_
  show xT _ _ _ 0 [_, _, _, _, _] _ _ _
  refine xr_iload1 dX3_power_0 rfl ?_
  refine xr_if_ge 6 dX3_power_1 (by decide) (fun h0 => ?_) (fun h0 => ?_)
  rotate_left
  · rw [le_toInt, ti_0] at h0
    have hl : lvl (mK M) v most = none := lvl_none (Or.inl (by omega))
    refine xr_ic0 dX3_power_4 ?_
    refine xr_iret dX3_power_5 rfl rfl ⟨by rw [hl], rfl, rfl⟩
  rw [le_toInt, ti_0] at h0
  refine xr_ic1 dX3_power_6 ?_
  refine xr_istore3 dX3_power_7 (Nat.le_of_ble_eq_true rfl) ?_
  show xT _ _ _ 8 [_, _, _, _, _] _ _ _
  refine xr_ic0 dX3_power_8 ?_
  refine xr_istore dX3_power_9 (Nat.le_of_ble_eq_true rfl) ?_
  show xT _ _ _ 11 [_, _, _, _, _] _ _ _
  exact L h0 9 0 rfl (by rw [Nat.pow_zero]; exact hm1) (by omega)
theorem c3_rowIndex {M : xMac} (h : cMb I M) {r : List Nat} (hr : rOk M r) (hrl : mK M ^ r.length ≤ 256) : xCon G M_X3_rowIndex [.ref (G.1 21), .int (nI (rowNum r)), .int (nI r.length)] I J (xpi fun v I' J' => v = nI (plc (mK M) r) ∧ I = I' ∧ J = J') := by
  have hK2 := h.1.1
  have hK4 := h.1.2.1
  have hr8 := lvl_8 hK2 hrl
  have h4 : ∀ x ∈ r, x < 4 := fun x hx => by have := hr x hx; omega
  have hrn := rowNum_lt r h4
  have hp10 : 4 ^ r.length ≤ 4 ^ 8 := Nat.pow_le_pow_right (by decide) hr8
  have h410 : 4 ^ 8 = 65536 := by decide
  have L : ∀ j, j ≤ r.length → xT G M_X3_rowIndex (xMQ G (xpi fun v I' J' => v = nI (plc (mK M) r) ∧ I = I' ∧ J = J')) 7 [some (.ref (G.1 21)), some (.int (nI (rowNum r))), some (.int (nI r.length)), some (.int (nI (plc (mK M) (r.take (r.length - j))))), some (.int (nI j + -1))] [] I J := by
    intro j
    induction j with
    | zero =>
      intro hj
      rw [Nat.sub_zero, List.take_length]
      refine xr_iload dX3_rowIndex_7 rfl ?_
      refine xr_if_lt 34 dX3_rowIndex_9 (by decide) (fun hz => ?_) (fun hz => ?_)
      rotate_left
      · exact absurd (by decide) hz
      refine xr_iload3 dX3_rowIndex_34 rfl ?_
      refine xr_iret dX3_rowIndex_35 rfl rfl ⟨rfl, rfl, rfl⟩
    | succ j IH =>
      intro hj
      have hjl : r.length - (j + 1) < r.length := by omega
      have IH := IH (by omega)
      have etk : r.take (r.length - j) = r.take (r.length - (j + 1)) ++ [r[r.length - (j + 1)]] := by
        rw [← List.take_succ_eq_append_getElem hjl]
        congr 1
        omega
      have hdig := rowNum_dig h4 (i := j) (by omega)
      have hdx : r[r.length - 1 - j]'(by omega) = r[r.length - (j + 1)] := by congr 1; omega
      rw [hdx] at hdig
      rw [etk, plc_snoc] at IH
      have hdl : rowNum r / 4 ^ j ≤ rowNum r := Nat.div_le_self _ _
      have ev : nI (j + 1) + -1 = nI j := by
        rw [show (-1 : Int32) = -(1 : Int32) from rfl, ← Int32.sub_eq_add_neg, k_1, pk_sub (by omega), Nat.add_sub_cancel]
      rw [ev]
      refine xr_iload dX3_rowIndex_7 rfl ?_
      refine xr_if_lt 34 dX3_rowIndex_9 (by decide) (fun hz => ?_) (fun hz => ?_)
      · exact absurd hz (nI_pos (by omega))
      refine xr_iload3 dX3_rowIndex_12 rfl ?_
      refine xr_aload0 dX3_rowIndex_13 rfl ?_
      refine xr_getIv dX3_rowIndex_14 fk_3_31 lay_21 rfl h.2.1 ?_
      refine xr_imul dX3_rowIndex_17 ?_
      refine xr_iload1 dX3_rowIndex_18 rfl ?_
      refine xr_ic2 dX3_rowIndex_19 ?_
      refine xr_iload dX3_rowIndex_20 rfl ?_
      refine xr_imul dX3_rowIndex_22 ?_
      show xT _ _ _ 23 _ _ _ _
      refine xr_ishr dX3_rowIndex_23 ?_
      refine xr_ic3 dX3_rowIndex_24 ?_
      refine xr_iand dX3_rowIndex_25 ?_
      rw [k_2, shr_row (by omega) (by omega), and3 (by omega), hdig]
      refine xr_iadd dX3_rowIndex_26 ?_
      refine xr_istore3 dX3_rowIndex_27 (Nat.le_of_ble_eq_true rfl) ?_
      show xT _ _ _ 28 [_, _, _, _, _] _ _ _
      refine xr_iinc dX3_rowIndex_28 rfl ii_m1 (Nat.le_of_ble_eq_true rfl) ?_
      show xT _ _ _ 31 [_, _, _, _, _] _ _ _
      refine xr_goto 7 dX3_rowIndex_31 (by decide) ?_
      rw [pk_mul, nI_add]
      exact IH
  refine x_ent (by decide) (Nat.le_of_ble_eq_true rfl) rfl ?_
  show xT _ _ _ 0 [_, _, _, _, _] _ _ _
  refine xr_ic0 dX3_rowIndex_0 ?_
  refine xr_istore3 dX3_rowIndex_1 (Nat.le_of_ble_eq_true rfl) ?_
  show xT _ _ _ 2 [_, _, _, _, _] _ _ _
  refine xr_iload2 dX3_rowIndex_2 rfl ?_
  refine xr_ic1 dX3_rowIndex_3 ?_
  refine xr_isub dX3_rowIndex_4 ?_
  rw [Int32.sub_eq_add_neg]
  refine xr_istore dX3_rowIndex_5 (Nat.le_of_ble_eq_true rfl) ?_
  show xT _ _ _ 7 [_, _, _, _, _] _ _ _
  have := L r.length (Nat.le_refl _)
  rw [Nat.sub_self, List.take_zero] at this
  exact this
theorem c8_levelOf {M : xMac} (h : cMb I M) (row : Int32) : xCon G M_X8_levelOf [.ref (G.1 0), .int row] I J (xpi fun v I' J' => v = oI ((levRow (mK M) row).map List.length) ∧ I = I' ∧ J = J') := by
  have hK2 := h.1.1
  refine x_ent (by decide) (Nat.le_of_ble_eq_true rfl) rfl ?_
  show xT _ _ _ 0 [_, _, _] _ _ _
  refine xr_aload0 dX8_levelOf_0 rfl ?_
  refine xr_getR dX8_levelOf_1 fk_8_33 lay_0 rfl ?_
  refine xr_iload1 dX8_levelOf_4 rfl ?_
  refine xr_cVi [_] dX8_levelOf_5 (xcv_of cf_X3_rowLength ml_8_179 (by decide)) rfl lay_21 rfl rfl rfl (Nat.le_of_ble_eq_true rfl) (c3_rowLength h row) (fun v I1 J1 hc => ?_)
  obtain ⟨rfl, rfl, rfl⟩ := hc
  refine xr_istore2 dX8_levelOf_8 (Nat.le_of_ble_eq_true rfl) ?_
  show xT _ _ _ 9 [_, _, _] _ _ _
  refine xr_aload0 dX8_levelOf_9 rfl ?_
  refine xr_getR dX8_levelOf_10 fk_8_33 lay_0 rfl ?_
  refine xr_iload2 dX8_levelOf_13 rfl ?_
  refine xr_sip si_256 dX8_levelOf_14 ?_
  rw [k_256]
  refine xr_cVi [_, _] dX8_levelOf_17 (xcv_of cf_X3_power ml_8_220 (by decide)) rfl lay_21 rfl rfl rfl (Nat.le_of_ble_eq_true rfl) (c3_power h _ (by decide) (by decide)) (fun v I1 J1 hc => ?_)
  obtain ⟨rfl, rfl, rfl⟩ := hc
  cases hr : rowOf (mK M) row with
  | none =>
    rw [show oI (Option.map List.length (none : Option (List Nat))) = -1 from rfl]
    have hl : lvl (mK M) (-1) 256 = none := lvl_none (Or.inl (by decide))
    rw [hl]
    refine xr_if_ne 27 dX8_levelOf_20 (by decide) (fun hz => ?_) (fun hz => ?_)
    · exact absurd rfl hz
    refine xr_icm1 dX8_levelOf_23 ?_
    refine xr_goto 28 dX8_levelOf_24 (by decide) ?_
    refine xr_iret dX8_levelOf_28 rfl rfl ⟨by simp [levRow, hr, oI], rfl, rfl⟩
  | some r =>
    obtain ⟨rl, rk, -⟩ := rowOf_some hr
    have hl := lvl_len (K := mK M) rl
    by_cases hlv : mK M ^ r.length ≤ 256
    · rw [show oI (Option.map List.length (some r)) = nI r.length from rfl]
      have hw : w2n (nI r.length) = r.length := w2n_nI (by omega)
      have hl2 : lvl (mK M) (nI r.length) 256 = some r.length := by
        have := lvl_pos (K := mK M) (v := nI r.length) (most := 256) (by rw [nI_toInt (by omega)]; omega) (by rw [hw]; exact hlv)
        rw [hw] at this
        exact this
      rw [hl2]
      have hp : 0 < mK M ^ r.length := Nat.pow_pos (by omega)
      refine xr_if_ne 27 dX8_levelOf_20 (by decide) (fun hz => ?_) (fun hz => ?_)
      rotate_left
      · have := (nI_eq (b := 0) (by omega) (by decide)).mp hz; omega
      refine xr_iload2 dX8_levelOf_27 rfl ?_
      refine xr_iret dX8_levelOf_28 rfl rfl ⟨by simp [levRow, hr, hlv, oI], rfl, rfl⟩
    · rw [show oI (Option.map List.length (some r)) = nI r.length from rfl]
      have hl2 : lvl (mK M) (nI r.length) 256 = none := lvl_none (Or.inr (by rw [w2n_nI (by omega)]; omega))
      rw [hl2]
      refine xr_if_ne 27 dX8_levelOf_20 (by decide) (fun hz => ?_) (fun hz => ?_)
      · exact absurd rfl hz
      refine xr_icm1 dX8_levelOf_23 ?_
      refine xr_goto 28 dX8_levelOf_24 (by decide) ?_
      refine xr_iret dX8_levelOf_28 rfl rfl ⟨by simp [levRow, hr, hlv, oI], rfl, rfl⟩
end C24
