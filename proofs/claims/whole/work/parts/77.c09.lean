section C09
variable {G : xG} {I : xI} {J : xJ}
theorem c8_forgetAnswers : xCon G M_X8_forgetAnswers [.ref (G.1 0)] I J (xpv fun I' J' => I' 27 = upd (I 27) 7 0 ∧ I' 56 = upd (I 56) 8 0 ∧ cfx [27, 56] I J I' J') := by
  have c2 : ∀ I J, xCon G M_X2_forget [.ref (G.1 27)] I J (xpv fun I' J' => I' = va_up I 27 (upd (I 27) 7 0) ∧ J = J') := by
    intro I J
    refine x_ent (by decide) (Nat.le_of_ble_eq_true rfl) rfl ?_
    show xT _ _ _ 0 [_] _ _ _
    refine xr_aload0 dX2_forget_0 rfl ?_
    refine xr_ic0 dX2_forget_1 ?_
    refine xr_putI dX2_forget_2 fp_2_33 lay_27 rfl ?_
    refine xr_vret dX2_forget_5 rfl rfl ⟨rfl, rfl⟩
  have c6 : ∀ I J, xCon G M_X6_forget [.ref (G.1 56)] I J (xpv fun I' J' => I' = va_up I 56 (upd (I 56) 8 0) ∧ J = J') := by
    intro I J
    refine x_ent (by decide) (Nat.le_of_ble_eq_true rfl) rfl ?_
    show xT _ _ _ 0 [_] _ _ _
    refine xr_aload0 dX6_forget_0 rfl ?_
    refine xr_ic0 dX6_forget_1 ?_
    refine xr_putI dX6_forget_2 fp_6_45 lay_56 rfl ?_
    refine xr_vret dX6_forget_5 rfl rfl ⟨rfl, rfl⟩
  refine x_ent (by decide) (Nat.le_of_ble_eq_true rfl) rfl ?_
  show xT _ _ _ 0 [_] _ _ _
  refine xr_aload0 dX8_forgetAnswers_0 rfl ?_
  refine xr_getR dX8_forgetAnswers_1 fk_8_40 lay_0 rfl ?_
  refine xr_cVv [] dX8_forgetAnswers_4 (xcv_of cf_X2_forget ml_8_293 (by decide)) rfl lay_27 rfl rfl rfl (Nat.le_of_ble_eq_true rfl) (c2 _ _) (fun I1 J1 hc => ?_)
  obtain ⟨rfl, rfl⟩ := hc
  refine xr_aload0 dX8_forgetAnswers_7 rfl ?_
  refine xr_getR dX8_forgetAnswers_8 fk_8_61 lay_0 rfl ?_
  refine xr_cVv [] dX8_forgetAnswers_11 (xcv_of cf_X6_forget ml_8_296 (by decide)) rfl lay_56 rfl rfl rfl (Nat.le_of_ble_eq_true rfl) (c6 _ _) (fun I1 J1 hc => ?_)
  obtain ⟨rfl, rfl⟩ := hc
  refine xr_vret dX8_forgetAnswers_14 rfl rfl ⟨?_, ?_, (cfx.rf.up _ (by simp)).up _ (by simp)⟩
  · rw [va_up_ne _ _ (by decide), up_same]
  · rw [up_same, va_up_ne _ _ (by decide)]
theorem and1 {m : Nat} (h : m < 16) : nI m &&& 1 = nI (m % 2) := pk_andN (by omega) 1 (by decide)
theorem shr1 {m : Nat} (h : m < 16) : nI m >>> ((1 : Int32) &&& 31) = nI (m / 2) := pk_shrN (by omega) _ 1 (by decide)
theorem c8_hasLostWayBack {M : xMac} (hM : mOk M) (hB : cBk I (mB M)) {w : Nat} (hw : isW w) {ws : List Nat} (hs : cWd I J w ws) (h16 : w16 ws) : xCon G M_X8_hasLostWayBack [.ref (G.1 0), .ref (G.1 w)] I J (xpi fun v I' J' => v = b2 (wLost M ws) ∧ I = I' ∧ J = J') := by
  have hl := h16.1
  have L : ∀ i, i ≤ ws.length → ∀ z3 : Option Value, (∀ k (hk : k < ws.length), k < i → ¬ (ws[k] % 2 = 1 ∧ mB M (ws[k] / 2) = false)) → xT G M_X8_hasLostWayBack (xMQ G (xpi fun v I' J' => v = b2 (wLost M ws) ∧ I = I' ∧ J = J')) 2 [some (.ref (G.1 0)), some (.ref (G.1 w)), some (.int (nI i)), z3] [] I J := by
    refine x_for (fun i hi IH z3 no => ?_)
    refine xr_iload2 dX8_hasLostWayBack_2 rfl ?_
    refine xr_aload1 dX8_hasLostWayBack_3 rfl ?_
    refine xr_getIv dX8_hasLostWayBack_4 fk_8_163 hw rfl hs.2 ?_
    refine xr_icmp_ge 44 dX8_hasLostWayBack_7 (by decide) (fun hc => ?_) (fun hc => ?_)
    · have : i = ws.length := by have := nle hc; omega
      subst this
      refine xr_ic0 dX8_hasLostWayBack_44 ?_
      refine xr_zret dX8_hasLostWayBack_45 rfl rfl (by simp) ⟨?_, rfl, rfl⟩
      have : wLost M ws = false := by
        unfold wLost
        rw [List.any_eq_false]
        intro m hm q
        obtain ⟨k, hk, rfl⟩ := List.getElem_of_mem hm
        simp only [Bool.and_eq_true, beq_iff_eq, Bool.not_eq_true'] at q
        exact no k hk hk q
      rw [this]; rfl
    have hil := nlt hc
    have IH := IH hil
    have hm16 := h16.2 _ (List.getElem_mem hil)
    have K38 : ∀ z3 : Option Value, ¬ (ws[i] % 2 = 1 ∧ mB M (ws[i] / 2) = false) → xT G M_X8_hasLostWayBack (xMQ G (xpi fun v I' J' => v = b2 (wLost M ws) ∧ I = I' ∧ J = J')) 38 [some (.ref (G.1 0)), some (.ref (G.1 w)), some (.int (nI i)), z3] [] I J := by
      intro z3 hno
      refine xr_iinc dX8_hasLostWayBack_38 rfl ii_1 (Nat.le_of_ble_eq_true rfl) ?_
      show xT _ _ _ 41 [_, _, _, _] _ _ _
      refine xr_goto 2 dX8_hasLostWayBack_41 (by decide) ?_
      rw [k_1, nI_add]
      refine IH _ (fun k hk hk2 => ?_)
      rcases Nat.lt_or_ge k i with q | q
      · exact no k hk q
      · have : k = i := by omega
        subst this
        exact hno
    refine xr_aload1 dX8_hasLostWayBack_10 rfl ?_
    refine xr_iload2 dX8_hasLostWayBack_11 rfl ?_
    refine xr_cVi [_] dX8_hasLostWayBack_12 (xcv_of cf_X7_mark ml_8_166 (by decide)) rfl hw rfl rfl rfl (Nat.le_of_ble_eq_true rfl) (c7_mark hw hs h16 hil) (fun v I1 J1 hc1 => ?_)
    obtain ⟨rfl, rfl, rfl⟩ := hc1
    refine xr_istore3 dX8_hasLostWayBack_15 (Nat.le_of_ble_eq_true rfl) ?_
    show xT _ _ _ 16 [_, _, _, _] _ _ _
    refine xr_iload3 dX8_hasLostWayBack_16 rfl ?_
    refine xr_ic1 dX8_hasLostWayBack_17 ?_
    refine xr_iand dX8_hasLostWayBack_18 ?_
    refine xr_ic1 dX8_hasLostWayBack_19 ?_
    rw [and1 hm16]
    refine xr_icmp_ne 38 dX8_hasLostWayBack_20 (by decide) (fun h1 => ?_) (fun h1 => ?_)
    · refine K38 _ (fun q => h1 (by rw [q.1]; rfl))
    have h1 : ws[i] % 2 = 1 := (nI_eq (by omega) (by decide)).mp h1
    refine xr_aload0 dX8_hasLostWayBack_23 rfl ?_
    refine xr_getR dX8_hasLostWayBack_24 fk_8_33 lay_0 rfl ?_
    refine xr_iload3 dX8_hasLostWayBack_27 rfl ?_
    refine xr_ic1 dX8_hasLostWayBack_28 ?_
    refine xr_ishr dX8_hasLostWayBack_29 ?_
    rw [shr1 hm16]
    refine xr_cVi [_] dX8_hasLostWayBack_30 (xcv_of cf_X3_isBack ml_8_127 (by decide)) rfl lay_21 rfl rfl rfl (Nat.le_of_ble_eq_true rfl) (c3_isBack hB (by omega)) (fun v I1 J1 hc1 => ?_)
    obtain ⟨rfl, rfl, rfl⟩ := hc1
    refine xr_if_ne 38 dX8_hasLostWayBack_33 (by decide) (fun hb => ?_) (fun hb => ?_)
    · refine K38 _ (fun q => ?_)
      rw [q.2] at hb
      exact hb rfl
    have hb := b2_0.mp hb
    refine xr_ic1 dX8_hasLostWayBack_36 ?_
    refine xr_zret dX8_hasLostWayBack_37 rfl rfl (by simp) ⟨?_, rfl, rfl⟩
    have : wLost M ws = true := by
      unfold wLost
      rw [List.any_eq_true]
      exact ⟨_, List.getElem_mem hil, by simp [h1, hb]⟩
    rw [this]; rfl
  refine x_ent (by decide) (Nat.le_of_ble_eq_true rfl) rfl ?_
  show xT _ _ _ 0 [_, _, _, _] _ _ _
  refine xr_ic0 dX8_hasLostWayBack_0 ?_
  refine xr_istore2 dX8_hasLostWayBack_1 (Nat.le_of_ble_eq_true rfl) ?_
  show xT _ _ _ 2 [_, _, _, _] _ _ _
  exact L 0 (Nat.zero_le _) _ (fun k _ hk => absurd hk (Nat.not_lt_zero _))
theorem c8_hasBackStates {M : xMac} (hM : mOk M) (hB : cBk I (mB M)) {w : Nat} (hw : isW w) {ws : List Nat} (hs : cWd I J w ws) (h16 : w16 ws) : xCon G M_X8_hasBackStates [.ref (G.1 0), .ref (G.1 w)] I J (xpi fun v I' J' => v = b2 (wBk M ws) ∧ I = I' ∧ J = J') := by
  have hl := h16.1
  have L : ∀ i, i ≤ ws.length → (∀ k (hk : k < ws.length), k < i → mB M (ws[k] / 2) = true) → xT G M_X8_hasBackStates (xMQ G (xpi fun v I' J' => v = b2 (wBk M ws) ∧ I = I' ∧ J = J')) 2 [some (.ref (G.1 0)), some (.ref (G.1 w)), some (.int (nI i))] [] I J := by
    refine x_for (fun i hi IH no => ?_)
    refine xr_iload2 dX8_hasBackStates_2 rfl ?_
    refine xr_aload1 dX8_hasBackStates_3 rfl ?_
    refine xr_getIv dX8_hasBackStates_4 fk_8_163 hw rfl hs.2 ?_
    refine xr_icmp_ge 35 dX8_hasBackStates_7 (by decide) (fun hc => ?_) (fun hc => ?_)
    · have : i = ws.length := by have := nle hc; omega
      subst this
      refine xr_ic1 dX8_hasBackStates_35 ?_
      refine xr_zret dX8_hasBackStates_36 rfl rfl (by simp) ⟨?_, rfl, rfl⟩
      have : wBk M ws = true := by
        unfold wBk
        rw [List.all_eq_true]
        intro m hm
        obtain ⟨k, hk, rfl⟩ := List.getElem_of_mem hm
        exact no k hk hk
      rw [this]; rfl
    have hil := nlt hc
    have IH := IH hil
    have hm16 := h16.2 _ (List.getElem_mem hil)
    refine xr_aload0 dX8_hasBackStates_10 rfl ?_
    refine xr_getR dX8_hasBackStates_11 fk_8_33 lay_0 rfl ?_
    refine xr_aload1 dX8_hasBackStates_14 rfl ?_
    refine xr_iload2 dX8_hasBackStates_15 rfl ?_
    refine xr_cVi [_] dX8_hasBackStates_16 (xcv_of cf_X7_mark ml_8_166 (by decide)) rfl hw rfl rfl rfl (Nat.le_of_ble_eq_true rfl) (c7_mark hw hs h16 hil) (fun v I1 J1 hc1 => ?_)
    obtain ⟨rfl, rfl, rfl⟩ := hc1
    refine xr_ic1 dX8_hasBackStates_19 ?_
    refine xr_ishr dX8_hasBackStates_20 ?_
    rw [shr1 hm16]
    refine xr_cVi [_] dX8_hasBackStates_21 (xcv_of cf_X3_isBack ml_8_127 (by decide)) rfl lay_21 rfl rfl rfl (Nat.le_of_ble_eq_true rfl) (c3_isBack hB (by omega)) (fun v I1 J1 hc1 => ?_)
    obtain ⟨rfl, rfl, rfl⟩ := hc1
    refine xr_if_ne 29 dX8_hasBackStates_24 (by decide) (fun hb => ?_) (fun hb => ?_)
    rotate_left
    · have hb := b2_0.mp hb
      refine xr_ic0 dX8_hasBackStates_27 ?_
      refine xr_zret dX8_hasBackStates_28 rfl rfl (by simp) ⟨?_, rfl, rfl⟩
      have : wBk M ws = false := by
        cases hq : wBk M ws with
        | false => rfl
        | true =>
          unfold wBk at hq
          rw [List.all_eq_true] at hq
          have := hq _ (List.getElem_mem hil)
          rw [hb] at this
          cases this
      rw [this]; rfl
    refine xr_iinc dX8_hasBackStates_29 rfl ii_1 (Nat.le_of_ble_eq_true rfl) ?_
    show xT _ _ _ 32 [_, _, _] _ _ _
    refine xr_goto 2 dX8_hasBackStates_32 (by decide) ?_
    rw [k_1, nI_add]
    refine IH (fun k hk hk2 => ?_)
    rcases Nat.lt_or_ge k i with q | q
    · exact no k hk q
    · have : k = i := by omega
      subst this
      cases hq : mB M (ws[k] / 2) with
      | true => rfl
      | false => rw [hq] at hb; exact absurd rfl hb
  refine x_ent (by decide) (Nat.le_of_ble_eq_true rfl) rfl ?_
  show xT _ _ _ 0 [_, _, _] _ _ _
  refine xr_ic0 dX8_hasBackStates_0 ?_
  refine xr_istore2 dX8_hasBackStates_1 (Nat.le_of_ble_eq_true rfl) ?_
  show xT _ _ _ 2 [_, _, _] _ _ _
  exact L 0 (Nat.zero_le _) (fun k _ hk => absurd hk (Nat.not_lt_zero _))
def cFg (I : xI) (J : xJ) (I' : xI) (J' : xJ) : Prop := cfx [12, 13, 14, 15, 16, 17, 18, 19, 21, 22, 23, 24, 25, 26, 27, 56] I J I' J' ∧ I' 27 = upd (I 27) 7 0 ∧ I' 56 = upd (I 56) 8 0
theorem wd_27 {I I' : xI} {J J' : xJ} (f : cfx [12, 13, 14, 15, 16, 17, 18, 19] I J I' J') : I' 27 = I 27 ∧ I' 56 = I 56 := ⟨(f 27 (by decide)).1, (f 56 (by decide)).1⟩
theorem c8_letters {S : xSt} (k : Int32) (h : cMc I S.2.1) : xCon G M_X8_letters [.ref (G.1 0), .int k] I J (xpi fun v I' J' => v = (sp_letters S k).1 ∧ (((sp_letters S k).2 = S ∧ I = I' ∧ J = J') ∨ ((sp_letters S k).2.1 = S.1 ∧ cMc I' (sp_letters S k).2.2.1 ∧ cSp I' J' (sp_letters S k).2.2.1 (sp_letters S k).2.2.2 ∧ cFg I J I' J'))) := by
  have K10 : ¬ (2 ≤ k ∧ k ≤ 4) → xT G M_X8_letters (xMQ G (xpi fun v I' J' => v = (sp_letters S k).1 ∧ (((sp_letters S k).2 = S ∧ I = I' ∧ J = J') ∨ ((sp_letters S k).2.1 = S.1 ∧ cMc I' (sp_letters S k).2.2.1 ∧ cSp I' J' (sp_letters S k).2.2.1 (sp_letters S k).2.2.2 ∧ cFg I J I' J')))) 10 [some (.ref (G.1 0)), some (.int k), none] [] I J := by
    intro hn
    have e : sp_letters S k = (-1, S) := by unfold sp_letters; rw [if_neg hn]
    rw [e]
    refine xr_icm1 dX8_letters_10 ?_
    refine xr_iret dX8_letters_11 rfl rfl ⟨rfl, Or.inl ⟨rfl, rfl, rfl⟩⟩
  refine x_ent (by decide) (Nat.le_of_ble_eq_true rfl) rfl ?_
  show xT _ _ _ 0 [_, _, _] _ _ _
  refine xr_iload1 dX8_letters_0 rfl ?_
  refine xr_ic2 dX8_letters_1 ?_
  refine xr_icmp_lt 10 dX8_letters_2 (by decide) (fun h0 => ?_) (fun h0 => ?_)
  · exact K10 (fun q => by rw [lt_toInt, ti_2] at h0; rw [le_toInt, ti_2] at q; omega)
  refine xr_iload1 dX8_letters_5 rfl ?_
  refine xr_ic4 dX8_letters_6 ?_
  refine xr_icmp_le 12 dX8_letters_7 (by decide) (fun h1 => ?_) (fun h1 => ?_)
  rotate_left
  · exact K10 (fun q => h1 q.2)
  have hk : 2 ≤ k ∧ k ≤ 4 := ⟨by rw [lt_toInt, ti_2] at h0; rw [le_toInt, ti_2]; omega, h1⟩
  have e : sp_letters S k = (1, (S.1, (w2n k, 0, S.2.1.2.2), fun _ => [])) := by unfold sp_letters; rw [if_pos hk]
  rw [e]
  have hk' := hk
  rw [le_toInt, le_toInt, ti_2, ti_4] at hk'
  have hkn : k = nI (w2n k) := (nI_w2n (by rw [lt_toInt, ti_0]; omega)).symm
  have hk2 : 2 ≤ w2n k ∧ w2n k ≤ 4 := by unfold w2n; omega
  generalize w2n k = k' at hkn hk2
  subst hkn
  refine xr_aload0 dX8_letters_12 rfl ?_
  refine xr_getR dX8_letters_13 fk_8_33 lay_0 rfl ?_
  refine xr_iload1 dX8_letters_16 rfl ?_
  refine xr_cVv [_] dX8_letters_17 (xcv_of cf_X3_restart ml_8_88 (by decide)) rfl lay_21 rfl rfl rfl (Nat.le_of_ble_eq_true rfl) (c3_restart h.1 hk2) (fun I1 J1 hc => ?_)
  obtain ⟨m1, f1⟩ := hc
  refine xr_aload0 dX8_letters_20 rfl ?_
  refine xr_cVv [] dX8_letters_21 (xcv_of cf_X8_forgetAnswers ml_8_92 (by decide)) rfl lay_0 rfl rfl rfl (Nat.le_of_ble_eq_true rfl) c8_forgetAnswers (fun I2 J2 hc => ?_)
  obtain ⟨e27, e56, f2⟩ := hc
  have m2 := f2.mc m1 (by decide)
  have g27 : I2 27 = upd (I 27) 7 0 := by rw [e27, (f1 27 (by decide)).1]
  have g56 : I2 56 = upd (I 56) 8 0 := by rw [e56, (f1 56 (by decide)).1]
  have f02 : cfx [21, 22, 23, 24, 25, 26, 27, 56] I J I2 J2 := (f1.mono (by simp)).tr (f2.mono (by simp))
  have L : ∀ w, w ≤ 8 → ∀ I3 J3, cfx [12, 13, 14, 15, 16, 17, 18, 19] I2 J2 I3 J3 → (∀ w', w' < w → cWd I3 J3 (12 + w') []) → xT G M_X8_letters (xMQ G (xpi fun v I' J' => v = (1, ((S.1, (k', 0, S.2.1.2.2), fun _ => []) : xSt)).1 ∧ (((1, ((S.1, (k', 0, S.2.1.2.2), fun _ => []) : xSt)).2 = S ∧ I = I' ∧ J = J') ∨ ((1, ((S.1, (k', 0, S.2.1.2.2), fun _ => []) : xSt)).2.1 = S.1 ∧ cMc I' (1, ((S.1, (k', 0, S.2.1.2.2), fun _ => []) : xSt)).2.2.1 ∧ cSp I' J' (1, ((S.1, (k', 0, S.2.1.2.2), fun _ => []) : xSt)).2.2.1 (1, ((S.1, (k', 0, S.2.1.2.2), fun _ => []) : xSt)).2.2.2 ∧ cFg I J I' J')))) 26 [some (.ref (G.1 0)), some (.int (nI k')), some (.int (nI w))] [] I3 J3 := by
    refine x_for (fun w hw IH I3 J3 f3 d3 => ?_)
    refine xr_iload2 dX8_letters_26 rfl ?_
    refine xr_bip bi_8 dX8_letters_27 ?_
    refine xr_icmp_ge 47 dX8_letters_29 (by decide) (fun hc => ?_) (fun hc => ?_)
    · have : w = 8 := by have := nle (b := 8) hc; omega
      subst this
      refine xr_ic1 dX8_letters_47 ?_
      refine xr_iret dX8_letters_48 rfl rfl ⟨rfl, Or.inr ⟨rfl, f3.mc m2 (by decide), fun w' hw' => ⟨d3 w' hw', wGood.nil⟩, (f02.mono (by simp)).tr (f3.mono (by simp)), by rw [(wd_27 f3).1]; exact g27, by rw [(wd_27 f3).2]; exact g56⟩⟩
    have hw8 := nlt (b := 8) hc
    have hW := isW_s w hw8
    refine xr_aload0 dX8_letters_32 rfl ?_
    refine xr_getR dX8_letters_33 fk_8_17 lay_0 rfl ?_
    refine xr_iload2 dX8_letters_36 rfl ?_
    refine xr_aald4 w dX8_letters_37 lay_2 rfl hw8 (by decide) ?_
    refine xr_cVv [] dX8_letters_38 (xcv_of cf_X7_empty ml_8_95 (by decide)) rfl hW rfl rfl rfl (Nat.le_of_ble_eq_true rfl) (c7_empty hW) (fun I4 J4 hc4 => ?_)
    obtain ⟨d4, f4⟩ := hc4
    refine xr_iinc dX8_letters_41 rfl ii_1 (Nat.le_of_ble_eq_true rfl) ?_
    show xT _ _ _ 44 [_, _, _] _ _ _
    refine xr_goto 26 dX8_letters_44 (by decide) ?_
    rw [k_1, nI_add]
    refine IH hw8 I4 J4 (f3.tr (f4.mono (fun a ha => by simp at ha ⊢; omega))) (fun w' hw' => ?_)
    by_cases q : w' = w
    · rw [q]; exact d4
    · exact f4.wd (d3 w' (by omega)) (by simp; omega)
  refine xr_ic0 dX8_letters_24 ?_
  refine xr_istore2 dX8_letters_25 (Nat.le_of_ble_eq_true rfl) ?_
  show xT _ _ _ 26 [_, _, _] _ _ _
  exact L 0 (by decide) I2 J2 cfx.rf (fun w' hw' => absurd hw' (Nat.not_lt_zero _))
end C09
