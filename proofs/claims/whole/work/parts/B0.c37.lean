section C37
variable {G : xG} {I : xI} {J : xJ}
theorem cSw.cg {I I' : xI} {J J' : xJ} {M : xMac} (h : cSw I J M) (e : ∀ a, 56 ≤ a → a ≤ 76 → I' a = I a ∧ J' a = J a) : cSw I' J' M := by
  obtain ⟨h1, h2⟩ := h
  have e56 := (e 56 (by decide) (by decide)).1
  refine ⟨h1.cg (fun a q1 q2 => e a (by omega) (by omega)), ?_⟩
  rw [e56]
  rcases h2 with h2 | ⟨m, hm, h2, h3, h4, h5⟩ | ⟨d, hd, h2, h3, h4, h5⟩
  · exact Or.inl h2
  · refine Or.inr (Or.inl ⟨m, hm, h2, h3, by rw [e56]; exact h4, fun q => ⟨(h5 q).1.cg (fun a q1 q2 => e a (by omega) (by omega)), (h5 q).2.cg (e 68 (by decide) (by decide)).1 (e 70 (by decide) (by decide)).1 ?_ ?_⟩⟩)
    · rw [(e 57 (by decide) (by decide)).1]
    · rw [(e 57 (by decide) (by decide)).1]
  · refine Or.inr (Or.inr ⟨d, hd, h2, h3, by rw [e56]; exact h4, fun F hF => ?_⟩)
    obtain ⟨a1, a2, hs, a3, a4, a5⟩ := h5 F hF
    exact ⟨a1, by rw [e56]; exact a2, hs, a3.cg (fun a q1 q2 => e a (by omega) (by omega)), a4, by rw [(e 74 (by decide) (by decide)).1]; exact a5⟩
theorem pKd.al {M : xMac} {p : Nat} {hs : List (List Nat)} (h : pKd I M p hs) (hc : hClo M hs) : ∃ c : Nat → Nat, (∀ k, k < hs.length → I (p + 11) k = nI (c k) ∧ c k < hs.length) ∧ ∀ a b, a < hs.length → b < hs.length → (c a = c b ↔ wAl M (hs.getD a []) (hs.getD b [])) := by
  obtain ⟨l, rc, hl1, hst, ⟨c, hc1, hc2⟩, -⟩ := h
  refine ⟨c, fun k hk => ⟨(hc1 k hk).1, ?_⟩, fun a b ha hb => ?_⟩
  · have := (hc1 k hk).2
    have := cnt_le (wFst M hs (l + 1)) hs.length
    omega
  · rw [hc2 a b ha hb]
    exact stb_al hc hst (by rw [getD_lt ha]; exact List.getElem_mem _) (by rw [getD_lt hb]; exact List.getElem_mem _)
theorem c6_isLaw {M : xMac} (hM : mOk M) (hwh : mWhole M) {m : Nat} (hl : (wW M m).length ≤ 200) (hk : pKd I M 57 (wW M m)) {h : Nat} (hh : h < (wW M m).length) : xCon G M_X6_isLaw [.ref (G.1 56), .int (nI h)] I J (xpi fun v I' J' => v = b2 (isLw M m h) ∧ I = I' ∧ J = J') := by
  obtain ⟨c, hc1, hc2⟩ := hk.al (wW_clo hM hwh)
  have hp0 : 0 < (wW M m).length := by omega
  have h00 : (wW M m).getD 0 [] = [] := getD_at (wW_at0 M m)
  refine x_ent (by decide) (Nat.le_of_ble_eq_true rfl) rfl ?_
  show xT _ _ _ 0 [_, _] _ _ _
  refine xr_iload1 dX6_isLaw_0 rfl ?_
  refine xr_if_le 20 dX6_isLaw_1 (by decide) (fun h0 => ?_) (fun h0 => ?_)
  · have h0 : h = 0 := by have := (nI_leI (b := 0) (by omega) (by decide)).mp h0; omega
    refine xr_ic0 dX6_isLaw_20 ?_
    refine xr_zret dX6_isLaw_21 rfl rfl (by simp) ⟨?_, rfl, rfl⟩
    subst h0
    rfl
  have h0 : 0 < h := by
    rcases Nat.eq_zero_or_pos h with q | q
    · exact absurd (by rw [q]; decide) h0
    · exact q
  refine xr_aload0 dX6_isLaw_4 rfl ?_
  refine xr_getR dX6_isLaw_5 fk_6_12 lay_56 rfl ?_
  refine xr_iload1 dX6_isLaw_8 rfl ?_
  refine xr_ic0 dX6_isLaw_9 ?_
  refine xr_cVi [_, _] dX6_isLaw_10 (xcv_of cf_X4_areAlike ml_6_110 (by decide)) rfl lay_57 rfl rfl rfl (Nat.le_of_ble_eq_true rfl) (c4_areAlike (b := 0) isPl_57 hl (fun k hk => (hc1 k hk).1) (fun k hk => by have := (hc1 k hk).2; omega) hh hp0) (fun v I1 J1 hc => ?_)
  obtain ⟨rfl, rfl, rfl⟩ := hc
  have hal := hc2 h 0 hh hp0
  rw [h00] at hal
  have e : isLw M m h = decide (c h = c 0) := by
    unfold isLw
    rw [decide_eq_true h0, Bool.true_and, Bool.eq_iff_iff, wA_iff, decide_eq_true_iff]
    exact hal.symm
  rw [← e]
  refine xr_if_eq 20 dX6_isLaw_13 (by decide) (fun hz => ?_) (fun hz => ?_)
  · skip
    refine xr_ic0 dX6_isLaw_20 ?_
    refine xr_zret dX6_isLaw_21 rfl rfl (by simp) ⟨by rw [b2_0.mp hz]; rfl, rfl, rfl⟩
  · skip
    refine xr_ic1 dX6_isLaw_16 ?_
    refine xr_goto 21 dX6_isLaw_17 (by decide) ?_
    refine xr_zret dX6_isLaw_21 rfl rfl (by simp) ⟨?_, rfl, rfl⟩
    cases hq : isLw M m h with
    | true => rfl
    | false => rw [hq] at hz; exact absurd rfl hz
theorem c6_countLaws {M : xMac} (hM : mOk M) (hwh : mWhole M) {m : Nat} (hw : pWd I J 57 (wW M m)) (hk : pKd I M 57 (wW M m)) : xCon G M_X6_countLaws [.ref (G.1 56)] I J (xpi fun v I' J' => v = nI (lawN M m) ∧ I = I' ∧ J = J') := by
  obtain ⟨hl, hcnt⟩ := hw.len
  have L : ∀ h, h ≤ (wW M m).length → xT G M_X6_countLaws (xMQ G (xpi fun v I' J' => v = nI (lawN M m) ∧ I = I' ∧ J = J')) 4 [some (.ref (G.1 56)), some (.int (nI (cnt (isLw M m) h))), some (.int (nI h))] [] I J := by
    refine x_for (fun h hh IH => ?_)
    have hcl := cnt_le (isLw M m) h
    refine xr_iload2 dX6_countLaws_4 rfl ?_
    refine xr_aload0 dX6_countLaws_5 rfl ?_
    refine xr_getR dX6_countLaws_6 fk_6_12 lay_56 rfl ?_
    refine xr_getR dX6_countLaws_9 fk_6_71 lay_57 rfl ?_
    refine xr_getIv dX6_countLaws_12 fk_6_75 lay_58 rfl hcnt ?_
    refine xr_icmp_ge 35 dX6_countLaws_15 (by decide) (fun hc => ?_) (fun hc => ?_)
    · have : h = (wW M m).length := by have := nle hc; omega
      subst this
      refine xr_iload1 dX6_countLaws_35 rfl ?_
      refine xr_iret dX6_countLaws_36 rfl rfl ⟨rfl, rfl, rfl⟩
    have hhl := nlt hc
    have IH := IH hhl
    have hcs : cnt (isLw M m) (h + 1) = cnt (isLw M m) h + cond (isLw M m h) 1 0 := rfl
    refine xr_aload0 dX6_countLaws_18 rfl ?_
    refine xr_iload2 dX6_countLaws_19 rfl ?_
    refine xr_cVi [_] dX6_countLaws_20 (xcv_of cf_X6_isLaw ml_6_114 (by decide)) rfl lay_56 rfl rfl rfl (Nat.le_of_ble_eq_true rfl) (c6_isLaw hM hwh hl hk hhl) (fun v I1 J1 hc1 => ?_)
    obtain ⟨rfl, rfl, rfl⟩ := hc1
    refine xr_if_eq 29 dX6_countLaws_23 (by decide) (fun hz => ?_) (fun hz => ?_)
    · rw [hcs, b2_0.mp hz] at IH
      refine xr_iinc dX6_countLaws_29 rfl ii_1 (Nat.le_of_ble_eq_true rfl) ?_
      show xT _ _ _ 32 [_, _, _] _ _ _
      refine xr_goto 4 dX6_countLaws_32 (by decide) ?_
      rw [k_1, nI_add]
      exact IH
    · have hz : isLw M m h = true := by
        cases hq : isLw M m h with
        | true => rfl
        | false => rw [hq] at hz; exact absurd rfl hz
      rw [hcs, hz] at IH
      refine xr_iinc dX6_countLaws_26 rfl ii_1 (Nat.le_of_ble_eq_true rfl) ?_
      show xT _ _ _ 29 [_, _, _] _ _ _
      refine xr_iinc dX6_countLaws_29 rfl ii_1 (Nat.le_of_ble_eq_true rfl) ?_
      show xT _ _ _ 32 [_, _, _] _ _ _
      refine xr_goto 4 dX6_countLaws_32 (by decide) ?_
      rw [k_1, nI_add, nI_add]
      exact IH
  refine x_ent (by decide) (Nat.le_of_ble_eq_true rfl) rfl ?_
  show xT _ _ _ 0 [_, _, _] _ _ _
  refine xr_ic0 dX6_countLaws_0 ?_
  refine xr_istore1 dX6_countLaws_1 (Nat.le_of_ble_eq_true rfl) ?_
  show xT _ _ _ 2 [_, _, _] _ _ _
  refine xr_ic0 dX6_countLaws_2 ?_
  refine xr_istore2 dX6_countLaws_3 (Nat.le_of_ble_eq_true rfl) ?_
  show xT _ _ _ 4 [_, _, _] _ _ _
  exact L 0 (Nat.zero_le _)
theorem c6_findLaw {M : xMac} (hM : mOk M) (hwh : mWhole M) {m : Nat} (hw : pWd I J 57 (wW M m)) (hk : pKd I M 57 (wW M m)) (i : Int32) : xCon G M_X6_findLaw [.ref (G.1 56), .int i] I J (xpi fun v I' J' => v = oI (lawAt M m i) ∧ I = I' ∧ J = J') := by
  obtain ⟨hl, hcnt⟩ := hw.len
  have L : ∀ h, h ≤ (wW M m).length → (∀ k, k < h → (isLw M m k && decide (nI (cnt (isLw M m) k) = i)) = false) → xT G M_X6_findLaw (xMQ G (xpi fun v I' J' => v = oI (lawAt M m i) ∧ I = I' ∧ J = J')) 4 [some (.ref (G.1 56)), some (.int i), some (.int (nI (cnt (isLw M m) h))), some (.int (nI h))] [] I J := by
    refine x_for (fun h hh IH no => ?_)
    have hcl := cnt_le (isLw M m) h
    refine xr_iload3 dX6_findLaw_4 rfl ?_
    refine xr_aload0 dX6_findLaw_5 rfl ?_
    refine xr_getR dX6_findLaw_6 fk_6_12 lay_56 rfl ?_
    refine xr_getR dX6_findLaw_9 fk_6_71 lay_57 rfl ?_
    refine xr_getIv dX6_findLaw_12 fk_6_75 lay_58 rfl hcnt ?_
    refine xr_icmp_ge 42 dX6_findLaw_15 (by decide) (fun hc => ?_) (fun hc => ?_)
    · have : h = (wW M m).length := by have := nle hc; omega
      subst this
      refine xr_icm1 dX6_findLaw_42 ?_
      refine xr_iret dX6_findLaw_43 rfl rfl ⟨by unfold lawAt; rw [find_nothing no]; rfl, rfl, rfl⟩
    have hhl := nlt hc
    have IH := IH hhl
    have hcs : cnt (isLw M m) (h + 1) = cnt (isLw M m) h + cond (isLw M m h) 1 0 := rfl
    have no' : (isLw M m h && decide (nI (cnt (isLw M m) h) = i)) = false → ∀ k, k < h + 1 → (isLw M m k && decide (nI (cnt (isLw M m) k) = i)) = false := fun hf k hk => by
      rcases Nat.lt_or_ge k h with q | q
      · exact no k q
      · have : k = h := by omega
        rw [this]; exact hf
    refine xr_aload0 dX6_findLaw_18 rfl ?_
    refine xr_iload3 dX6_findLaw_19 rfl ?_
    refine xr_cVi [_] dX6_findLaw_20 (xcv_of cf_X6_isLaw ml_6_114 (by decide)) rfl lay_56 rfl rfl rfl (Nat.le_of_ble_eq_true rfl) (c6_isLaw hM hwh hl hk hhl) (fun v I1 J1 hc1 => ?_)
    obtain ⟨rfl, rfl, rfl⟩ := hc1
    refine xr_if_eq 36 dX6_findLaw_23 (by decide) (fun hz => ?_) (fun hz => ?_)
    · have hz := b2_0.mp hz
      rw [hcs, hz] at IH
      refine xr_iinc dX6_findLaw_36 rfl ii_1 (Nat.le_of_ble_eq_true rfl) ?_
      show xT _ _ _ 39 [_, _, _, _] _ _ _
      refine xr_goto 4 dX6_findLaw_39 (by decide) ?_
      rw [k_1, nI_add]
      exact IH (no' (by rw [hz]; rfl))
    have hz : isLw M m h = true := by
      cases hq : isLw M m h with
      | true => rfl
      | false => rw [hq] at hz; exact absurd rfl hz
    rw [hcs, hz] at IH
    refine xr_iload2 dX6_findLaw_26 rfl ?_
    refine xr_iload1 dX6_findLaw_27 rfl ?_
    refine xr_icmp_ne 33 dX6_findLaw_28 (by decide) (fun he => ?_) (fun he => ?_)
    rotate_left
    · skip
      refine xr_iload3 dX6_findLaw_31 rfl ?_
      refine xr_iret dX6_findLaw_32 rfl rfl ⟨by unfold lawAt; rw [find_first hhl (by rw [hz, he]; simp) no]; rfl, rfl, rfl⟩
    refine xr_iinc dX6_findLaw_33 rfl ii_1 (Nat.le_of_ble_eq_true rfl) ?_
    show xT _ _ _ 36 [_, _, _, _] _ _ _
    refine xr_iinc dX6_findLaw_36 rfl ii_1 (Nat.le_of_ble_eq_true rfl) ?_
    show xT _ _ _ 39 [_, _, _, _] _ _ _
    refine xr_goto 4 dX6_findLaw_39 (by decide) ?_
    rw [k_1, nI_add, nI_add]
    exact IH (no' (by rw [hz, decide_eq_false he]; rfl))
  refine x_ent (by decide) (Nat.le_of_ble_eq_true rfl) rfl ?_
  show xT _ _ _ 0 [_, _, _, _] _ _ _
  refine xr_ic0 dX6_findLaw_0 ?_
  refine xr_istore2 dX6_findLaw_1 (Nat.le_of_ble_eq_true rfl) ?_
  show xT _ _ _ 2 [_, _, _, _] _ _ _
  refine xr_ic0 dX6_findLaw_2 ?_
  refine xr_istore3 dX6_findLaw_3 (Nat.le_of_ble_eq_true rfl) ?_
  show xT _ _ _ 4 [_, _, _, _] _ _ _
  exact L 0 (Nat.zero_le _) (fun k hk => absurd hk (Nat.not_lt_zero _))
theorem short_p {S : xSt} {m : Int32} (h : 0 ≤ sp_short S m) : sp_short S m = 0 := by
  refine Classical.byContradiction (fun q => ?_)
  have := short_ret q
  rw [lt_toInt, ti_0] at this
  rw [le_toInt, ti_0] at h
  omega
theorem short_n {S : xSt} {m : Int32} (h : ¬ 0 ≤ sp_short S m) : ¬ sp_short S m = 0 := fun q => h (by rw [q]; decide)
theorem c8_growth {S : xSt} (m : Int32) (hm : cMc I S.2.1) (hsw : cSw I J S.2.1) : xCon G M_X8_growth [.ref (G.1 0), .int m] I J (xpi fun v I' J' => v = sp_growth S m ∧ cSw I' J' S.2.1 ∧ cfx [56, 57, 58, 59, 60, 61, 62, 63, 64, 65, 66, 67, 68, 69, 70, 71, 72] I J I' J') := by
  have hM := hm.1.1
  refine x_ent (by decide) (Nat.le_of_ble_eq_true rfl) rfl ?_
  show xT _ _ _ 0 [_, _, _] _ _ _
  refine xr_aload0 dX8_growth_0 rfl ?_
  refine xr_getR dX8_growth_1 fk_8_61 lay_0 rfl ?_
  refine xr_aload0 dX8_growth_4 rfl ?_
  refine xr_getR dX8_growth_5 fk_8_33 lay_0 rfl ?_
  refine xr_iload1 dX8_growth_8 rfl ?_
  refine xr_cVi [_, _] dX8_growth_9 (xcv_of cf_X6_gatherWithin ml_8_270 (by decide)) rfl lay_56 rfl rfl rfl (Nat.le_of_ble_eq_true rfl) (c6_gatherWithin (S := S) rfl hm hsw m) (fun v I1 J1 hc => ?_)
  obtain ⟨rfl, sw1, h1, f1⟩ := hc
  refine xr_istore2 dX8_growth_12 (Nat.le_of_ble_eq_true rfl) ?_
  show xT _ _ _ 13 [_, _, _] _ _ _
  refine xr_iload2 dX8_growth_13 rfl ?_
  refine xr_if_ge 21 dX8_growth_14 (by decide) (fun hz => ?_) (fun hz => ?_)
  rotate_left
  · skip
    refine xr_iload2 dX8_growth_17 rfl ?_
    refine xr_goto 31 dX8_growth_18 (by decide) ?_
    refine xr_iret dX8_growth_31 rfl rfl ⟨by rw [sp_growth, if_neg (short_n hz)], sw1, f1⟩
  have hz := short_p hz
  obtain ⟨hwh, hm6, hl, w1, kd⟩ := h1 hz
  obtain ⟨l, rc, hl1, hst, -, k11, -⟩ := kd
  refine xr_aload0 dX8_growth_21 rfl ?_
  refine xr_getR dX8_growth_22 fk_8_61 lay_0 rfl ?_
  refine xr_getR dX8_growth_25 fk_8_273 lay_56 rfl ?_
  refine xr_getIv dX8_growth_28 fk_8_217 lay_57 rfl k11 ?_
  refine xr_iret dX8_growth_31 rfl rfl ⟨?_, sw1, f1⟩
  rw [sp_growth, if_pos hz]
  congr 1
  exact ncl_nUn (fun a ha b hb => stb_al (wW_clo hM hwh) hst ha hb) (fun w => Iff.rfl)
theorem c8_laws {S : xSt} (m : Int32) (hm : cMc I S.2.1) (hsw : cSw I J S.2.1) : xCon G M_X8_laws [.ref (G.1 0), .int m] I J (xpi fun v I' J' => v = sp_laws S m ∧ cSw I' J' S.2.1 ∧ cfx [56, 57, 58, 59, 60, 61, 62, 63, 64, 65, 66, 67, 68, 69, 70, 71, 72] I J I' J') := by
  have hM := hm.1.1
  refine x_ent (by decide) (Nat.le_of_ble_eq_true rfl) rfl ?_
  show xT _ _ _ 0 [_, _, _] _ _ _
  refine xr_aload0 dX8_laws_0 rfl ?_
  refine xr_getR dX8_laws_1 fk_8_61 lay_0 rfl ?_
  refine xr_aload0 dX8_laws_4 rfl ?_
  refine xr_getR dX8_laws_5 fk_8_33 lay_0 rfl ?_
  refine xr_iload1 dX8_laws_8 rfl ?_
  refine xr_cVi [_, _] dX8_laws_9 (xcv_of cf_X6_gatherWithin ml_8_270 (by decide)) rfl lay_56 rfl rfl rfl (Nat.le_of_ble_eq_true rfl) (c6_gatherWithin (S := S) rfl hm hsw m) (fun v I1 J1 hc => ?_)
  obtain ⟨rfl, sw1, h1, f1⟩ := hc
  refine xr_istore2 dX8_laws_12 (Nat.le_of_ble_eq_true rfl) ?_
  show xT _ _ _ 13 [_, _, _] _ _ _
  refine xr_iload2 dX8_laws_13 rfl ?_
  refine xr_if_ge 21 dX8_laws_14 (by decide) (fun hz => ?_) (fun hz => ?_)
  rotate_left
  · skip
    refine xr_iload2 dX8_laws_17 rfl ?_
    refine xr_goto 28 dX8_laws_18 (by decide) ?_
    refine xr_iret dX8_laws_28 rfl rfl ⟨by rw [sp_laws, if_neg (short_n hz)], sw1, f1⟩
  have hz := short_p hz
  obtain ⟨hwh, hm6, hl, w1, kd⟩ := h1 hz
  refine xr_aload0 dX8_laws_21 rfl ?_
  refine xr_getR dX8_laws_22 fk_8_61 lay_0 rfl ?_
  refine xr_cVi [] dX8_laws_25 (xcv_of cf_X6_countLaws ml_8_274 (by decide)) rfl lay_56 rfl rfl rfl (Nat.le_of_ble_eq_true rfl) (c6_countLaws hM hwh w1 kd) (fun v I2 J2 hc => ?_)
  obtain ⟨rfl, rfl, rfl⟩ := hc
  refine xr_iret dX8_laws_28 rfl rfl ⟨by rw [sp_laws, if_pos hz], sw1, f1⟩
theorem c8_law {S : xSt} (m i to : Int32) (hm : cMc I S.2.1) (hp : cSp I J S.2.1 S.2.2) (hsw : cSw I J S.2.1) : xCon G M_X8_law [.ref (G.1 0), .int m, .int i, .int to] I J (xpi fun v I' J' => v = (sp_law S m i to).1 ∧ (sp_law S m i to).2.1 = S.1 ∧ (sp_law S m i to).2.2.1 = S.2.1 ∧ cSp I' J' S.2.1 (sp_law S m i to).2.2.2 ∧ cSw I' J' S.2.1 ∧ cfx (12 :: 13 :: 14 :: 15 :: 16 :: 17 :: 18 :: 19 :: 20 :: [56, 57, 58, 59, 60, 61, 62, 63, 64, 65, 66, 67, 68, 69, 70, 71, 72]) I J I' J') := by
  have hM := hm.1.1
  refine x_ent (by decide) (Nat.le_of_ble_eq_true rfl) rfl ?_
  show xT _ _ _ 0 [_, _, _, _, _, _] _ _ _
  refine xr_iload3 dX8_law_0 rfl ?_
  refine xr_cSi [_] dX8_law_1 (xcs_of cf_X8_isSpot ml_8_145 (by decide)) rfl rfl (Nat.le_of_ble_eq_true rfl) (c8_isSpot to) (fun v I1 J1 hc => ?_)
  obtain ⟨rfl, rfl, rfl⟩ := hc
  refine xr_if_ne 9 dX8_law_4 (by decide) (fun ht => ?_) (fun ht => ?_)
  rotate_left
  · have ht := is_n ht
    have e : sp_law S m i to = (-1, S) := by unfold sp_law; rw [ht]
    rw [e]
    refine xr_icm1 dX8_law_7 ?_
    refine xr_iret dX8_law_8 rfl rfl ⟨rfl, rfl, rfl, hp, hsw, cfx.rf⟩
  obtain ⟨t', ht⟩ := is_s ht
  obtain ⟨ht8, rfl⟩ := ix_some ht
  refine xr_aload0 dX8_law_9 rfl ?_
  refine xr_getR dX8_law_10 fk_8_61 lay_0 rfl ?_
  refine xr_aload0 dX8_law_13 rfl ?_
  refine xr_getR dX8_law_14 fk_8_33 lay_0 rfl ?_
  refine xr_iload1 dX8_law_17 rfl ?_
  refine xr_cVi [_, _] dX8_law_18 (xcv_of cf_X6_gatherWithin ml_8_270 (by decide)) rfl lay_56 rfl rfl rfl (Nat.le_of_ble_eq_true rfl) (c6_gatherWithin (S := S) rfl hm hsw m) (fun v I1 J1 hc => ?_)
  obtain ⟨rfl, sw1, h1, f1⟩ := hc
  have p1 := f1.sp hp (by decide)
  refine xr_istore dX8_law_21 (Nat.le_of_ble_eq_true rfl) ?_
  show xT _ _ _ 23 [_, _, _, _, _, _] _ _ _
  refine xr_iload dX8_law_23 rfl ?_
  refine xr_if_ge 31 dX8_law_25 (by decide) (fun hz => ?_) (fun hz => ?_)
  rotate_left
  · have e : sp_law S m i (nI t') = (sp_short S m, S) := by unfold sp_law; rw [ht]; simp only [if_neg (short_n hz)]
    rw [e]
    refine xr_iload dX8_law_28 rfl ?_
    refine xr_iret dX8_law_30 rfl rfl ⟨rfl, rfl, rfl, p1, sw1, f1.mono (by simp)⟩
  have hz := short_p hz
  obtain ⟨hwh, hm6, hl, w1, kd⟩ := h1 hz
  refine xr_aload0 dX8_law_31 rfl ?_
  refine xr_getR dX8_law_32 fk_8_61 lay_0 rfl ?_
  refine xr_iload2 dX8_law_35 rfl ?_
  refine xr_cVi [_] dX8_law_36 (xcv_of cf_X6_findLaw ml_8_277 (by decide)) rfl lay_56 rfl rfl rfl (Nat.le_of_ble_eq_true rfl) (c6_findLaw hM hwh w1 kd i) (fun v I2 J2 hc => ?_)
  obtain ⟨rfl, rfl, rfl⟩ := hc
  cases hla : lawAt S.2.1 (w2n m) i with
  | none =>
    have e : sp_law S m i (nI t') = (-8, S) := by unfold sp_law; rw [ht]; simp only [if_pos hz, hla]
    rw [e]
    refine xr_istore dX8_law_39 (Nat.le_of_ble_eq_true rfl) ?_
    show xT _ _ _ 41 [_, _, _, _, _, _] _ _ _
    refine xr_iload dX8_law_41 rfl ?_
    refine xr_if_ge 49 dX8_law_43 (by decide) (fun hneg => ?_) (fun hneg => ?_)
    · exact absurd hneg (by decide)
    refine xr_bip bi_m8 dX8_law_46 ?_
    refine xr_iret dX8_law_48 rfl rfl ⟨rfl, rfl, rfl, p1, sw1, f1.mono (by simp)⟩
  | some hh =>
    have hhl : hh < (wW S.2.1 (w2n m)).length := List.mem_range.mp (List.mem_of_find?_eq_some hla)
    have e : sp_law S m i (nI t') = (nI ((wW S.2.1 (w2n m)).getD hh []).length, (S.1, S.2.1, va_up S.2.2 t' ((wW S.2.1 (w2n m)).getD hh []))) := by unfold sp_law; rw [ht]; simp only [if_pos hz, hla]
    rw [e]
    have hgw := (wW_good (M := S.2.1) (m := w2n m) (by omega)).2 _ (List.getElem_mem hhl)
    rw [getD_lt hhl]
    refine xr_istore dX8_law_39 (Nat.le_of_ble_eq_true rfl) ?_
    show xT _ _ _ 41 [_, _, _, _, _, _] _ _ _
    refine xr_iload dX8_law_41 rfl ?_
    refine xr_if_ge 49 dX8_law_43 (by decide) (fun hneg => ?_) (fun hneg => ?_)
    rotate_left
    · exact absurd (nI_pos' (by omega)) hneg
    rw [show oI (some hh) = nI hh from rfl]
    refine xr_aload0 dX8_law_49 rfl ?_
    refine xr_getR dX8_law_50 fk_8_61 lay_0 rfl ?_
    refine xr_getR dX8_law_53 fk_8_273 lay_56 rfl ?_
    refine xr_iload dX8_law_56 rfl ?_
    refine xr_aload0 dX8_law_58 rfl ?_
    refine xr_getR dX8_law_59 fk_8_26 lay_0 rfl ?_
    refine xr_cVv [_, _] dX8_law_62 (xcv_of cf_X4_load ml_8_280 (by decide)) rfl lay_57 rfl rfl rfl (Nat.le_of_ble_eq_true rfl) (c4_load isPl_57 w1 hhl (show isW 20 from rfl)) (fun I2 J2 hc => ?_)
    obtain ⟨d2, f2⟩ := hc
    refine xr_aload0 dX8_law_65 rfl ?_
    refine xr_aload0 dX8_law_66 rfl ?_
    refine xr_getR dX8_law_67 fk_8_26 lay_0 rfl ?_
    refine xr_iload3 dX8_law_70 rfl ?_
    refine xr_cVi [_, _] dX8_law_71 (xcv_of cf_X8_bring ml_8_175 (by decide)) rfl lay_0 rfl rfl rfl (Nat.le_of_ble_eq_true rfl) (c8_bring d2 ht8) (fun v I3 J3 hc => ?_)
    obtain ⟨rfl, d3, f3⟩ := hc
    have f23 : cfx [3, 20, 12 + t'] I1 J1 I3 J3 := (f2.mono (by simp)).tr (f3.mono (by simp))
    refine xr_iret dX8_law_74 rfl rfl ⟨rfl, rfl, rfl, p1.set d3 hgw f23, ?_, (f1.mono (by simp)).tr ?_⟩
    · exact sw1.cg (fun a h1 h2 => f23 a (by simp only [List.mem_cons, List.not_mem_nil, or_false]; omega))
    · refine (f2.mono (by simp)).tr (f3.mono (fun a ha => ?_))
      have := List.mem_singleton.mp ha
      simp only [List.mem_cons]
      omega
end C37
