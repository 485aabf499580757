section C13
variable {G : xG} {I : xI} {J : xJ}
theorem c8_wipe {S : xSt} (spot : Int32) (hM : mOk S.2.1) (hp : cSp I J S.2.1 S.2.2) : xCon G M_X8_wipe [.ref (G.1 0), .int spot] I J (xpi fun v I' J' => cPo S (sp_wipe S spot) v I J I' J') := by
  refine x_ent (by decide) (Nat.le_of_ble_eq_true rfl) rfl ?_
  show xT _ _ _ 0 [_, _, _] _ _ _
  refine xr_iload1 dX8_wipe_0 rfl ?_
  refine xr_cSi [_] dX8_wipe_1 (xcs_of cf_X8_isSpot ml_8_145 (by decide)) rfl rfl (Nat.le_of_ble_eq_true rfl) (c8_isSpot spot) (fun v I1 J1 hc => ?_)
  obtain ⟨rfl, rfl, rfl⟩ := hc
  refine xr_if_ne 9 dX8_wipe_4 (by decide) (fun hr => ?_) (fun hr => ?_)
  rotate_left
  · have hr := is_n hr
    refine xr_icm1 dX8_wipe_7 ?_
    refine xr_iret dX8_wipe_8 rfl rfl (cPo.no hp (by unfold sp_wipe; rw [hr]) cfx.rf)
  obtain ⟨w, hr⟩ := is_s hr
  obtain ⟨hw8, rfl⟩ := ix_some hr
  obtain ⟨hwd, hw16, hwr, hwo⟩ := sp_w hp hM hw8
  have hW := isW_s w hw8
  refine xr_aload0 dX8_wipe_9 rfl ?_
  refine xr_getR dX8_wipe_10 fk_8_17 lay_0 rfl ?_
  refine xr_iload1 dX8_wipe_13 rfl ?_
  refine xr_aald4 w dX8_wipe_14 lay_2 rfl hw8 (by decide) ?_
  refine xr_getIv dX8_wipe_15 fk_8_163 hW rfl hwd.2 ?_
  refine xr_istore2 dX8_wipe_18 (Nat.le_of_ble_eq_true rfl) ?_
  show xT _ _ _ 19 [_, _, _] _ _ _
  refine xr_aload0 dX8_wipe_19 rfl ?_
  refine xr_getR dX8_wipe_20 fk_8_17 lay_0 rfl ?_
  refine xr_iload1 dX8_wipe_23 rfl ?_
  refine xr_aald4 w dX8_wipe_24 lay_2 rfl hw8 (by decide) ?_
  refine xr_cVv [] dX8_wipe_25 (xcv_of cf_X7_empty ml_8_95 (by decide)) rfl hW rfl rfl rfl (Nat.le_of_ble_eq_true rfl) (c7_empty hW) (fun I1 J1 hc => ?_)
  obtain ⟨d1, f1⟩ := hc
  refine xr_iload2 dX8_wipe_28 rfl ?_
  refine xr_iret dX8_wipe_29 rfl rfl (cPo.yes hw8 hp (by unfold sp_wipe; rw [hr]) d1 wGood.nil (f1.mono (by simp)))
theorem c8_size {S : xSt} (spot : Int32) (hM : mOk S.2.1) (hp : cSp I J S.2.1 S.2.2) : xCon G M_X8_size [.ref (G.1 0), .int spot] I J (xpi fun v I' J' => v = sp_size S spot ∧ I = I' ∧ J = J') := by
  refine x_ent (by decide) (Nat.le_of_ble_eq_true rfl) rfl ?_
  show xT _ _ _ 0 [_, _] _ _ _
  refine xr_iload1 dX8_size_0 rfl ?_
  refine xr_cSi [_] dX8_size_1 (xcs_of cf_X8_isSpot ml_8_145 (by decide)) rfl rfl (Nat.le_of_ble_eq_true rfl) (c8_isSpot spot) (fun v I1 J1 hc => ?_)
  obtain ⟨rfl, rfl, rfl⟩ := hc
  refine xr_if_eq 19 dX8_size_4 (by decide) (fun hr => ?_) (fun hr => ?_)
  · have hr := is_n hr
    refine xr_icm1 dX8_size_19 ?_
    refine xr_iret dX8_size_20 rfl rfl ⟨by unfold sp_size; rw [hr], rfl, rfl⟩
  obtain ⟨w, hr⟩ := is_s hr
  obtain ⟨hw8, rfl⟩ := ix_some hr
  obtain ⟨hwd, hw16, hwr, hwo⟩ := sp_w hp hM hw8
  have hW := isW_s w hw8
  refine xr_aload0 dX8_size_7 rfl ?_
  refine xr_getR dX8_size_8 fk_8_17 lay_0 rfl ?_
  refine xr_iload1 dX8_size_11 rfl ?_
  refine xr_aald4 w dX8_size_12 lay_2 rfl hw8 (by decide) ?_
  refine xr_getIv dX8_size_13 fk_8_163 hW rfl hwd.2 ?_
  refine xr_goto 20 dX8_size_16 (by decide) ?_
  refine xr_iret dX8_size_20 rfl rfl ⟨by unfold sp_size; rw [hr], rfl, rfl⟩
theorem c8_token {S : xSt} (spot i : Int32) (hM : mOk S.2.1) (hp : cSp I J S.2.1 S.2.2) : xCon G M_X8_token [.ref (G.1 0), .int spot, .int i] I J (xpi fun v I' J' => v = sp_token S spot i ∧ I = I' ∧ J = J') := by
  have K24 : sp_token S spot i = 0 → xT G M_X8_token (xMQ G (xpi fun v I' J' => v = sp_token S spot i ∧ I = I' ∧ J = J')) 24 [some (.ref (G.1 0)), some (.int spot), some (.int i)] [] I J := by
    intro e
    rw [e]
    refine xr_ic0 dX8_token_24 ?_
    refine xr_iret dX8_token_25 rfl rfl ⟨rfl, rfl, rfl⟩
  refine x_ent (by decide) (Nat.le_of_ble_eq_true rfl) rfl ?_
  show xT _ _ _ 0 [_, _, _] _ _ _
  refine xr_iload1 dX8_token_0 rfl ?_
  refine xr_cSi [_] dX8_token_1 (xcs_of cf_X8_isSpot ml_8_145 (by decide)) rfl rfl (Nat.le_of_ble_eq_true rfl) (c8_isSpot spot) (fun v I1 J1 hc => ?_)
  obtain ⟨rfl, rfl, rfl⟩ := hc
  refine xr_if_eq 24 dX8_token_4 (by decide) (fun hr => ?_) (fun hr => ?_)
  · have hr := is_n hr
    exact K24 (by unfold sp_token; rw [hr])
  obtain ⟨w, hr⟩ := is_s hr
  obtain ⟨hw8, rfl⟩ := ix_some hr
  obtain ⟨hwd, hw16, hwr, hwo⟩ := sp_w hp hM hw8
  have hl := hw16.1
  have hW := isW_s w hw8
  refine xr_iload2 dX8_token_7 rfl ?_
  refine xr_if_lt 24 dX8_token_8 (by decide) (fun h0 => ?_) (fun h0 => ?_)
  · rw [lt_toInt, ti_0] at h0
    exact K24 (by unfold sp_token; rw [hr]; simp only; rw [ix_no (Or.inl h0)])
  rw [lt_toInt, ti_0] at h0
  refine xr_iload2 dX8_token_11 rfl ?_
  refine xr_aload0 dX8_token_12 rfl ?_
  refine xr_getR dX8_token_13 fk_8_17 lay_0 rfl ?_
  refine xr_iload1 dX8_token_16 rfl ?_
  refine xr_aald4 w dX8_token_17 lay_2 rfl hw8 (by decide) ?_
  refine xr_getIv dX8_token_18 fk_8_163 hW rfl hwd.2 ?_
  refine xr_icmp_lt 26 dX8_token_21 (by decide) (fun h1 => ?_) (fun h1 => ?_)
  rotate_left
  · rw [lt_toInt, nI_toInt (by omega)] at h1
    exact K24 (by unfold sp_token; rw [hr]; simp only; rw [ix_no (Or.inr (by omega))])
  rw [lt_toInt, nI_toInt (by omega)] at h1
  have hi := ix_in (n := (S.2.2 w).length) h0 (by omega)
  obtain ⟨hil, hin⟩ := ix_some hi
  generalize i.toInt.toNat = i' at hi hil hin
  subst hin
  have hm16 := hw16.2 _ (List.getElem_mem hil)
  refine xr_aload0 dX8_token_26 rfl ?_
  refine xr_getR dX8_token_27 fk_8_17 lay_0 rfl ?_
  refine xr_iload1 dX8_token_30 rfl ?_
  refine xr_aald4 w dX8_token_31 lay_2 rfl hw8 (by decide) ?_
  refine xr_iload2 dX8_token_32 rfl ?_
  refine xr_cVi [_] dX8_token_33 (xcv_of cf_X7_mark ml_8_166 (by decide)) rfl hW rfl rfl rfl (Nat.le_of_ble_eq_true rfl) (c7_mark hW hwd hw16 hil) (fun v I1 J1 hc => ?_)
  obtain ⟨rfl, rfl, rfl⟩ := hc
  refine xr_cSi [_] dX8_token_36 (xcs_of cf_X8_tokenOf ml_8_169 (by decide)) rfl rfl (Nat.le_of_ble_eq_true rfl) (c8_tokenOf hm16) (fun v I1 J1 hc => ?_)
  obtain ⟨rfl, rfl, rfl⟩ := hc
  refine xr_iret dX8_token_39 rfl rfl ⟨?_, rfl, rfl⟩
  unfold sp_token
  rw [hr]
  simp only
  rw [hi]
  simp only
  rw [List.getD_eq_getElem?_getD, List.getElem?_eq_getElem hil]
  rfl
theorem c8_times {S : xSt} (a b to : Int32) (hM : mOk S.2.1) (hp : cSp I J S.2.1 S.2.2) : xCon G M_X8_times [.ref (G.1 0), .int a, .int b, .int to] I J (xpi fun v I' J' => cPo S (sp_times S a b to) v I J I' J') := by
  have K21 : sp_times S a b to = (-1, S) → xT G M_X8_times (xMQ G (xpi fun v I' J' => cPo S (sp_times S a b to) v I J I' J')) 21 [some (.ref (G.1 0)), some (.int a), some (.int b), some (.int to)] [] I J := by
    intro e
    refine xr_icm1 dX8_times_21 ?_
    refine xr_iret dX8_times_22 rfl rfl (cPo.no hp e cfx.rf)
  refine x_ent (by decide) (Nat.le_of_ble_eq_true rfl) rfl ?_
  show xT _ _ _ 0 [_, _, _, _] _ _ _
  refine xr_iload1 dX8_times_0 rfl ?_
  refine xr_cSi [_] dX8_times_1 (xcs_of cf_X8_isSpot ml_8_145 (by decide)) rfl rfl (Nat.le_of_ble_eq_true rfl) (c8_isSpot a) (fun v I1 J1 hc => ?_)
  obtain ⟨rfl, rfl, rfl⟩ := hc
  refine xr_if_eq 21 dX8_times_4 (by decide) (fun ha => ?_) (fun ha => ?_)
  · have ha := is_n ha
    exact K21 (by simp [sp_times, ha])
  obtain ⟨a', ha⟩ := is_s ha
  obtain ⟨ha8, rfl⟩ := ix_some ha
  refine xr_iload2 dX8_times_7 rfl ?_
  refine xr_cSi [_] dX8_times_8 (xcs_of cf_X8_isSpot ml_8_145 (by decide)) rfl rfl (Nat.le_of_ble_eq_true rfl) (c8_isSpot b) (fun v I1 J1 hc => ?_)
  obtain ⟨rfl, rfl, rfl⟩ := hc
  refine xr_if_eq 21 dX8_times_11 (by decide) (fun hb => ?_) (fun hb => ?_)
  · have hb := is_n hb
    exact K21 (by simp [sp_times, ha, hb])
  obtain ⟨b', hb⟩ := is_s hb
  obtain ⟨hb8, rfl⟩ := ix_some hb
  refine xr_iload3 dX8_times_14 rfl ?_
  refine xr_cSi [_] dX8_times_15 (xcs_of cf_X8_isSpot ml_8_145 (by decide)) rfl rfl (Nat.le_of_ble_eq_true rfl) (c8_isSpot to) (fun v I1 J1 hc => ?_)
  obtain ⟨rfl, rfl, rfl⟩ := hc
  refine xr_if_ne 23 dX8_times_18 (by decide) (fun ht => ?_) (fun ht => ?_)
  rotate_left
  · have ht := is_n ht
    exact K21 (by simp [sp_times, ha, hb, ht])
  obtain ⟨to', ht⟩ := is_s ht
  obtain ⟨ht8, rfl⟩ := ix_some ht
  obtain ⟨awd, a16, ar, ao⟩ := sp_w hp hM ha8
  obtain ⟨bwd, b16, br, bo⟩ := sp_w hp hM hb8
  have hWa := isW_s a' ha8
  have hWb := isW_s b' hb8
  have e : sp_times S (nI a') (nI b') (nI to') = if 16 < (wapp (S.2.2 a') (S.2.2 b')).length then (-2, S) else (nI (wapp (S.2.2 a') (S.2.2 b')).length, (S.1, S.2.1, va_up S.2.2 to' (wapp (S.2.2 a') (S.2.2 b')))) := by simp only [sp_times, ha, hb, ht]
  refine xr_aload0 dX8_times_23 rfl ?_
  refine xr_aload0 dX8_times_24 rfl ?_
  refine xr_getR dX8_times_25 fk_8_17 lay_0 rfl ?_
  refine xr_iload1 dX8_times_28 rfl ?_
  refine xr_aald4 a' dX8_times_29 lay_2 rfl ha8 (by decide) ?_
  refine xr_aload0 dX8_times_30 rfl ?_
  refine xr_getR dX8_times_31 fk_8_17 lay_0 rfl ?_
  refine xr_iload2 dX8_times_34 rfl ?_
  show xT _ _ _ 35 _ _ _ _
  refine xr_aald4 b' dX8_times_35 lay_2 rfl hb8 (by decide) ?_
  refine xr_iload3 dX8_times_36 rfl ?_
  refine xr_cVi [_, _, _] dX8_times_37 (xcv_of cf_X8_join ml_8_159 (by decide)) rfl lay_0 rfl rfl rfl (Nat.le_of_ble_eq_true rfl) (c8_join hWa hWb (by omega) awd bwd a16 b16 br ht8) (fun v I1 J1 hc => ?_)
  rcases hc with ⟨h16, rfl, f1⟩ | ⟨h16, rfl, d1, f1⟩
  · rw [if_pos h16] at e
    refine xr_iret dX8_times_40 rfl rfl (cPo.no hp e (f1.mono (by simp)))
  · rw [if_neg (by omega)] at e
    refine xr_iret dX8_times_40 rfl rfl (cPo.yes ht8 hp e d1 ⟨h16, wapp_red _ _ ar, wapp_ok _ _ ao bo⟩ (f1.mono (by simp)))
theorem c8_turn {S : xSt} (a to : Int32) (hm : cMc I S.2.1) (hp : cSp I J S.2.1 S.2.2) : xCon G M_X8_turn [.ref (G.1 0), .int a, .int to] I J (xpi fun v I' J' => cPo S (sp_turn S a to) v I J I' J') := by
  have hM := hm.1.1
  have K14 : sp_turn S a to = (-1, S) → xT G M_X8_turn (xMQ G (xpi fun v I' J' => cPo S (sp_turn S a to) v I J I' J')) 14 [some (.ref (G.1 0)), some (.int a), some (.int to), none] [] I J := by
    intro e
    refine xr_icm1 dX8_turn_14 ?_
    refine xr_iret dX8_turn_15 rfl rfl (cPo.no hp e cfx.rf)
  refine x_ent (by decide) (Nat.le_of_ble_eq_true rfl) rfl ?_
  show xT _ _ _ 0 [_, _, _, _] _ _ _
  refine xr_iload1 dX8_turn_0 rfl ?_
  refine xr_cSi [_] dX8_turn_1 (xcs_of cf_X8_isSpot ml_8_145 (by decide)) rfl rfl (Nat.le_of_ble_eq_true rfl) (c8_isSpot a) (fun v I1 J1 hc => ?_)
  obtain ⟨rfl, rfl, rfl⟩ := hc
  refine xr_if_eq 14 dX8_turn_4 (by decide) (fun ha => ?_) (fun ha => ?_)
  · have ha := is_n ha
    exact K14 (by simp [sp_turn, ha])
  obtain ⟨a', ha⟩ := is_s ha
  obtain ⟨ha8, rfl⟩ := ix_some ha
  refine xr_iload2 dX8_turn_7 rfl ?_
  refine xr_cSi [_] dX8_turn_8 (xcs_of cf_X8_isSpot ml_8_145 (by decide)) rfl rfl (Nat.le_of_ble_eq_true rfl) (c8_isSpot to) (fun v I1 J1 hc => ?_)
  obtain ⟨rfl, rfl, rfl⟩ := hc
  refine xr_if_ne 16 dX8_turn_11 (by decide) (fun ht => ?_) (fun ht => ?_)
  rotate_left
  · have ht := is_n ht
    exact K14 (by simp [sp_turn, ha, ht])
  obtain ⟨to', ht⟩ := is_s ht
  obtain ⟨ht8, rfl⟩ := ix_some ht
  obtain ⟨awd, a16, ar, ao⟩ := sp_w hp hM ha8
  have hWa := isW_s a' ha8
  have e : sp_turn S (nI a') (nI to') = if wBk S.2.1 (S.2.2 a') = false then (-6, S) else (nI (wapp [] ((S.2.2 a').reverse.map opp)).length, (S.1, S.2.1, va_up S.2.2 to' (wapp [] ((S.2.2 a').reverse.map opp)))) := by simp only [sp_turn, ha, ht]
  refine xr_aload0 dX8_turn_16 rfl ?_
  refine xr_aload0 dX8_turn_17 rfl ?_
  refine xr_getR dX8_turn_18 fk_8_17 lay_0 rfl ?_
  refine xr_iload1 dX8_turn_21 rfl ?_
  refine xr_aald4 a' dX8_turn_22 lay_2 rfl ha8 (by decide) ?_
  refine xr_cVi [_] dX8_turn_23 (xcv_of cf_X8_hasBackStates ml_8_172 (by decide)) rfl lay_0 rfl rfl rfl (Nat.le_of_ble_eq_true rfl) (c8_hasBackStates hM hm.2.1 hWa awd a16) (fun v I1 J1 hc => ?_)
  obtain ⟨rfl, rfl, rfl⟩ := hc
  refine xr_if_ne 32 dX8_turn_26 (by decide) (fun hb => ?_) (fun hb => ?_)
  rotate_left
  · have hb := b2_0.mp hb
    rw [if_pos hb] at e
    refine xr_bip bi_m6 dX8_turn_29 ?_
    refine xr_iret dX8_turn_31 rfl rfl (cPo.no hp e cfx.rf)
  have hb : wBk S.2.1 (S.2.2 a') = true := by
    cases hq : wBk S.2.1 (S.2.2 a') with
    | true => rfl
    | false => rw [hq] at hb; exact absurd rfl hb
  rw [if_neg (by rw [hb]; decide)] at e
  have hB := wBk_iff.mp hb
  generalize hws : S.2.2 a' = ws at *
  have hl := a16.1
  have L : ∀ j, j ≤ ws.length → ∀ I1 J1, cfx [20] I J I1 J1 → cWd I1 J1 20 (wapp [] ((ws.drop j).reverse.map opp)) → xT G M_X8_turn (xMQ G (xpi fun v I' J' => cPo S (sp_turn S (nI a') (nI to')) v I J I' J')) 51 [some (.ref (G.1 0)), some (.int (nI a')), some (.int (nI to')), some (.int (nI j + -1))] [] I1 J1 := by
    intro j
    induction j with
    | zero =>
      intro hj I1 J1 f1 d1
      rw [List.drop_zero] at d1
      refine xr_iload3 dX8_turn_51 rfl ?_
      refine xr_if_lt 81 dX8_turn_52 (by decide) (fun hz => ?_) (fun hz => ?_)
      rotate_left
      · exact absurd (by decide) hz
      have hok : wOk S.2.1 (ws.reverse.map opp) := fun m hmm => by
        obtain ⟨q, hq, rfl⟩ := List.mem_map.mp hmm
        have := hB q (List.mem_reverse.mp hq)
        exact mBack.okm (by rw [opp_div]; exact this)
      have hlen := wapp_len (ws.reverse.map opp) []
      rw [List.length_nil, Nat.zero_add, List.length_map, List.length_reverse] at hlen
      refine xr_aload0 dX8_turn_81 rfl ?_
      refine xr_aload0 dX8_turn_82 rfl ?_
      refine xr_getR dX8_turn_83 fk_8_26 lay_0 rfl ?_
      refine xr_iload2 dX8_turn_86 rfl ?_
      refine xr_cVi [_, _] dX8_turn_87 (xcv_of cf_X8_bring ml_8_175 (by decide)) rfl lay_0 rfl rfl rfl (Nat.le_of_ble_eq_true rfl) (c8_bring d1 ht8) (fun v I2 J2 hc2 => ?_)
      obtain ⟨rfl, d2, f2⟩ := hc2
      refine xr_iret dX8_turn_90 rfl rfl (cPo.yes ht8 hp e d2 ⟨by omega, wapp_red _ _ wRed.nil, wapp_ok _ _ (fun m hm => by cases hm) hok⟩ ((f1.mono (by simp)).tr (f2.mono (by simp))))
    | succ j IH =>
      intro hj I1 J1 f1 d1
      have hjl : j < ws.length := by omega
      have IH := IH (by omega)
      have ev : nI (j + 1) + -1 = nI j := by
        rw [show (-1 : Int32) = -(1 : Int32) from rfl, ← Int32.sub_eq_add_neg, k_1, pk_sub (by omega), Nat.add_sub_cancel]
      rw [ev]
      refine xr_iload3 dX8_turn_51 rfl ?_
      refine xr_if_lt 81 dX8_turn_52 (by decide) (fun hz => ?_) (fun hz => ?_)
      · exact absurd hz (nI_pos (by omega))
      have hm16 := a16.2 _ (List.getElem_mem hjl)
      refine xr_aload0 dX8_turn_55 rfl ?_
      refine xr_getR dX8_turn_56 fk_8_26 lay_0 rfl ?_
      refine xr_aload0 dX8_turn_59 rfl ?_
      refine xr_getR dX8_turn_60 fk_8_17 lay_0 rfl ?_
      refine xr_iload1 dX8_turn_63 rfl ?_
      refine xr_aald4 a' dX8_turn_64 lay_2 rfl ha8 (by decide) ?_
      refine xr_iload3 dX8_turn_65 rfl ?_
      refine xr_cVi [_] dX8_turn_66 (xcv_of cf_X7_mark ml_8_166 (by decide)) rfl hWa rfl rfl rfl (Nat.le_of_ble_eq_true rfl) (c7_mark hWa (f1.wd awd (by simp; omega)) a16 hjl) (fun v I2 J2 hc2 => ?_)
      obtain ⟨rfl, rfl, rfl⟩ := hc2
      refine xr_ic1 dX8_turn_69 ?_
      refine xr_ixor dX8_turn_70 ?_
      rw [show nI ws[j] ^^^ 1 = nI (opp ws[j]) from ixor_1 ⟨_, hm16⟩]
      have hd : ws.drop j = ws[j] :: ws.drop (j + 1) := List.drop_eq_getElem_cons hjl
      have hlen := wapp_len ((ws.drop (j + 1)).reverse.map opp) []
      rw [List.length_nil, Nat.zero_add, List.length_map, List.length_reverse, List.length_drop] at hlen
      have h16 : d16 (wapp [] ((ws.drop (j + 1)).reverse.map opp)) := wOk16 hM (wapp_ok (M := S.2.1) _ [] (fun m hm => by cases hm) (fun m hmm => by
        obtain ⟨q, hq, rfl⟩ := List.mem_map.mp hmm
        have := hB q (List.mem_of_mem_drop (List.mem_reverse.mp hq))
        exact mBack.okm (by rw [opp_div]; exact this)))
      have hpl := wpush_len (wapp [] ((ws.drop (j + 1)).reverse.map opp)) (opp ws[j])
      refine xr_cVi [_] dX8_turn_71 (xcv_of cf_X7_push ml_8_156 (by decide)) rfl lay_20 rfl rfl rfl (Nat.le_of_ble_eq_true rfl) (c7_push (show isW 20 from rfl) d1 ⟨by omega, h16⟩ (opp_lt16 hm16)) (fun v I2 J2 hc2 => ?_)
      rcases hc2 with ⟨hbad, -⟩ | ⟨hgood, rfl, d2, f2⟩
      · omega
      refine xr_pop dX8_turn_74 rfl ?_
      refine xr_iinc dX8_turn_75 rfl ii_m1 (Nat.le_of_ble_eq_true rfl) ?_
      show xT _ _ _ 78 [_, _, _, _] _ _ _
      refine xr_goto 51 dX8_turn_78 (by decide) ?_
      refine IH I2 J2 (f1.tr f2) ?_
      rw [hd, List.reverse_cons, List.map_append, List.map_cons, List.map_nil, wapp_snoc]
      exact d2
  refine xr_aload0 dX8_turn_32 rfl ?_
  refine xr_getR dX8_turn_33 fk_8_26 lay_0 rfl ?_
  refine xr_cVv [] dX8_turn_36 (xcv_of cf_X7_empty ml_8_95 (by decide)) rfl lay_20 rfl rfl rfl (Nat.le_of_ble_eq_true rfl) (c7_empty (show isW 20 from rfl)) (fun I1 J1 hc => ?_)
  obtain ⟨d1, f1⟩ := hc
  have hl1 := (f1.wd awd (w := 12 + a') (by simp; omega)).2
  refine xr_aload0 dX8_turn_39 rfl ?_
  refine xr_getR dX8_turn_40 fk_8_17 lay_0 rfl ?_
  refine xr_iload1 dX8_turn_43 rfl ?_
  refine xr_aald4 a' dX8_turn_44 lay_2 rfl ha8 (by decide) ?_
  refine xr_getIv dX8_turn_45 fk_8_163 hWa rfl hl1 ?_
  refine xr_ic1 dX8_turn_48 ?_
  refine xr_isub dX8_turn_49 ?_
  rw [Int32.sub_eq_add_neg]
  refine xr_istore3 dX8_turn_50 (Nat.le_of_ble_eq_true rfl) ?_
  show xT _ _ _ 51 [_, _, _, _] _ _ _
  exact L ws.length (Nat.le_refl _) I1 J1 f1 (by rw [List.drop_length]; exact d1)
end C13
