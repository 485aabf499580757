section C28
variable {G : xG} {I : xI} {J : xJ}
theorem c2_roundsToRest {M : xMac} (hM : mOk M) (hwh : mWhole M) {n bt : Nat} (hn : mK M ^ n ≤ 256) (htb : cTb I M bt) (hbt : n < bt) {w : Nat} (hw : isW w) (hwl : w < 27) {ws : List Nat} (hs : cWd I J w ws) (h16 : w16 ws) (hB : wAllB M ws) : xCon G M_X2_roundsToRest [.ref (G.1 27), .ref (G.1 w), .int (nI n)] I J (xpi fun v I' J' => v = (if 1000000 < ordOf M n ws then -7 else nI (ordOf M n ws)) ∧ (∀ a, a ≠ 31 → I' a = I a) ∧ J = J') := by
  have hK2 := hM.1
  have hn8 := lvl_8 hK2 hn
  have pm := wkp_pm (n := n) hM hwh hB
  have t1 := (htb n hbt).1
  have hring := fun (I1 : xI) (V : Nat → Prop) (p : Nat) (e1 : ∀ a, a ≠ 31 → I1 a = I a) => c2_ringLength (G := G) (I := I1) (J := J) hM hwh hn (show cTb I1 M bt from fun j hj => by rw [e1 28 (by decide), e1 29 (by decide), e1 30 (by decide)]; exact htb j hj) hbt hw hwl (hs.cg (e1 w (by omega)) rfl) h16 hB (V := V) (p := p)
  have hord : ordOf M n ws = ordL (wkp M n ws) (mK M ^ n) (mK M ^ n) := rfl
  rw [hord]
  generalize hf : wkp M n ws = f at *
  generalize hN : mK M ^ n = N at *
  have L : ∀ p, p ≤ N → ∀ I1 (z6 : Option Value), ordL f N p ≤ 1000000 → (∀ q, q < N → I1 31 q = vis (orbV f p) q) → (∀ a, a ≠ 31 → I1 a = I a) → xT G M_X2_roundsToRest (xMQ G (xpi fun v I' J' => v = (if 1000000 < ordL f N N then -7 else nI (ordL f N N)) ∧ (∀ a, a ≠ 31 → I' a = I a) ∧ J = J')) 9 [some (.ref (G.1 27)), some (.ref (G.1 w)), some (.int (nI n)), some (.long (lN (ordL f N p))), none, some (.int (nI p)), z6, none] [] I1 J := by
    refine x_for (fun p hp IH I1 z6 o1 d1 e1 => ?_)
    have v29 : I1 29 n = nI N := by rw [e1 29 (by decide)]; exact t1
    refine xr_iload dX2_roundsToRest_9 rfl ?_
    refine xr_aload0 dX2_roundsToRest_11 rfl ?_
    refine xr_getR dX2_roundsToRest_12 fk_2_15 lay_27 rfl ?_
    refine xr_iload2 dX2_roundsToRest_15 rfl ?_
    refine xr_ialdv n dX2_roundsToRest_16 lay_29 rfl (by omega) (by decide) v29 ?_
    refine xr_icmp_ge 70 dX2_roundsToRest_17 (by decide) (fun hge => ?_) (fun hge => ?_)
    · have : p = N := by have := nle hge; omega
      subst this
      refine xr_lload3 dX2_roundsToRest_70 rfl ?_
      refine xr_l2i dX2_roundsToRest_71 ?_
      rw [lN_i]
      refine xr_iret dX2_roundsToRest_72 rfl rfl ⟨by rw [if_neg (by omega)], e1, rfl⟩
    have hpl := nlt hge
    have IH := IH hpl
    have K53 : ∀ I2 (z6 : Option Value), ordL f N (p + 1) ≤ 1000000 * 256 → (∀ q, q < N → I2 31 q = vis (orbV f (p + 1)) q) → (∀ a, a ≠ 31 → I2 a = I a) → xT G M_X2_roundsToRest (xMQ G (xpi fun v I' J' => v = (if 1000000 < ordL f N N then -7 else nI (ordL f N N)) ∧ (∀ a, a ≠ 31 → I' a = I a) ∧ J = J')) 53 [some (.ref (G.1 27)), some (.ref (G.1 w)), some (.int (nI n)), some (.long (lN (ordL f N (p + 1)))), none, some (.int (nI p)), z6, none] [] I2 J := by
      intro I2 z6 ho d2 e2
      refine xr_lload3 dX2_roundsToRest_53 rfl ?_
      refine xr_ldc2 cs_2_83 dX2_roundsToRest_54 ?_
      refine xr_lcmp dX2_roundsToRest_57 ?_
      rw [l_1e6]
      refine xr_if_le 64 dX2_roundsToRest_58 (by decide) (fun hle => ?_) (fun hle => ?_)
      rotate_left
      · have hle : ¬ ordL f N (p + 1) ≤ 1000000 := fun q => hle ((lg_cmp_le _ _).mpr ((pk_lLE (by omega) (by decide)).mpr q))
        refine xr_bip bi_m7 dX2_roundsToRest_61 ?_
        refine xr_iret dX2_roundsToRest_63 rfl rfl ⟨?_, e2, rfl⟩
        have := ordL_le f N (p := p + 1) (q := N) (by omega)
        rw [if_pos (by omega)]
      have hle : ordL f N (p + 1) ≤ 1000000 := (pk_lLE (by omega) (by decide)).mp ((lg_cmp_le _ _).mp hle)
      refine xr_iinc dX2_roundsToRest_64 rfl ii_1 (Nat.le_of_ble_eq_true rfl) ?_
      show xT _ _ _ 67 [_, _, _, _, _, _, _, _] _ _ _
      refine xr_goto 9 dX2_roundsToRest_67 (by decide) ?_
      rw [k_1, nI_add]
      exact IH I2 _ hle d2 e2
    have hsucc : ∀ q, orbV f (p + 1) q ↔ (orbV f p q ∨ ∃ k, itr f k p = q) := fun q => by
      constructor
      · rintro ⟨p', k, hp', e⟩
        rcases Nat.lt_or_ge p' p with g | g
        · exact Or.inl ⟨p', k, g, e⟩
        · have : p' = p := by omega
          subst this
          exact Or.inr ⟨k, e⟩
      · rintro (⟨p', k, hp', e⟩ | ⟨k, e⟩)
        · exact ⟨p', k, by omega, e⟩
        · exact ⟨p, k, by omega, e⟩
    have vd := d1 p hpl
    refine xr_aload0 dX2_roundsToRest_20 rfl ?_
    refine xr_getR dX2_roundsToRest_21 fk_2_21 lay_27 rfl ?_
    refine xr_iload dX2_roundsToRest_24 rfl ?_
    refine xr_ialdv p dX2_roundsToRest_26 lay_31 rfl (by omega) (by decide) vd ?_
    refine xr_if_ge 53 dX2_roundsToRest_27 (by decide) (fun hv => ?_) (fun hv => ?_)
    · have hV : orbV f p p := by
        refine Classical.byContradiction (fun q => ?_)
        rw [vis_f q] at hv
        exact absurd hv (by decide)
      have hold := ordL_old pm (by omega) hV
      have := K53 I1 z6 (by rw [hold]; omega) (fun q hq => by
        rw [d1 q hq]
        refine vis_eq ⟨fun h => (hsucc q).mpr (Or.inl h), fun h => ?_⟩
        rcases (hsucc q).mp h with h | ⟨k, h⟩
        · exact h
        · obtain ⟨p', k', hp', e⟩ := hV
          exact ⟨p', k + k', hp', by rw [itr_add, e]; exact h⟩) e1
      rw [hold] at this
      exact this
    have hV : ¬ orbV f p p := fun q => by
      rw [vis_t q] at hv
      exact absurd (by decide) hv
    obtain ⟨c1, c2, c3, c4⟩ := cyc_spec pm hpl
    have hop := ordL_pos f N p
    have g0 : 0 < Nat.gcd (ordL f N p) (cyc f N p) := Nat.gcd_pos_of_pos_left _ hop
    have gl : Nat.gcd (ordL f N p) (cyc f N p) ≤ ordL f N p := Nat.le_of_dvd hop (Nat.gcd_dvd_left _ _)
    have hne : ¬ lN (Nat.gcd (ordL f N p) (cyc f N p)) = 0 := fun q => by
      have : Nat.gcd (ordL f N p) (cyc f N p) = 0 := (pk_lEQ (b := 0) (by omega) (by decide)).mp q
      omega
    have hlc : ordL f N (p + 1) = Nat.lcm (ordL f N p) (cyc f N p) := rfl
    have hlm : Nat.lcm (ordL f N p) (cyc f N p) ≤ ordL f N p * cyc f N p := by
      rw [Nat.lcm]; exact Nat.div_le_self _ _
    have hlm2 : ordL f N p * cyc f N p ≤ 1000000 * 256 := Nat.mul_le_mul o1 (by omega)
    refine xr_aload0 dX2_roundsToRest_30 rfl ?_
    refine xr_aload1 dX2_roundsToRest_31 rfl ?_
    refine xr_iload2 dX2_roundsToRest_32 rfl ?_
    refine xr_iload dX2_roundsToRest_33 rfl ?_
    refine xr_cVi [_, _, _] dX2_roundsToRest_35 (xcv_of cf_X2_ringLength ml_2_75 (by decide)) rfl lay_27 rfl rfl rfl (Nat.le_of_ble_eq_true rfl) (hring I1 (orbV f p) p e1 (fun q hq => ⟨fun h => h.back pm hq, fun h => h.step⟩) d1 hpl hV) (fun v I2 J2 hc2 => ?_)
    obtain ⟨rfl, d2, e2, rfl⟩ := hc2
    refine xr_i2l dX2_roundsToRest_38 ?_
    rw [nI_l (by omega)]
    refine xr_lstore dX2_roundsToRest_39 (Nat.le_of_ble_eq_true rfl) ?_
    show xT _ _ _ 41 [_, _, _, _, _, _, _, _] _ _ _
    refine xr_lload3 dX2_roundsToRest_41 rfl ?_
    refine xr_lload3 dX2_roundsToRest_42 rfl ?_
    refine xr_lload dX2_roundsToRest_43 rfl ?_
    refine xr_cSl [_, _] dX2_roundsToRest_45 (xcs_of cf_X2_commonDivisor ml_2_79 (by decide)) rfl rfl (Nat.le_of_ble_eq_true rfl) (c2_commonDivisor hop (by omega) (by omega)) (fun v I3 J3 hc3 => ?_)
    obtain ⟨rfl, rfl, rfl⟩ := hc3
    refine xr_ldiv dX2_roundsToRest_48 hne ?_
    rw [pk_lDiv (by omega) g0 (by omega)]
    refine xr_lload dX2_roundsToRest_49 rfl ?_
    refine xr_lmul dX2_roundsToRest_51 ?_
    rw [lN_mul, lcm_div, ← hlc]
    refine xr_lstore3 dX2_roundsToRest_52 (Nat.le_of_ble_eq_true rfl) ?_
    show xT _ _ _ 53 [_, _, _, _, _, _, _, _] _ _ _
    exact K53 I2 _ (by omega) (fun q hq => by rw [d2 q hq]; exact vis_eq (hsucc q).symm) (fun a ha => (e2 a ha).trans (e1 a ha))
  refine x_ent (by decide) (Nat.le_of_ble_eq_true rfl) rfl ?_
  show xT _ _ _ 0 [_, _, _, _, _, _, _, _] _ _ _
  refine xr_lc1 dX2_roundsToRest_0 ?_
  refine xr_lstore3 dX2_roundsToRest_1 (Nat.le_of_ble_eq_true rfl) ?_
  show xT _ _ _ 2 [_, _, _, _, _, _, _, _] _ _ _
  refine xr_aload0 dX2_roundsToRest_2 rfl ?_
  refine xr_cVv [] dX2_roundsToRest_3 (xcv_of cf_X2_forgetRows ml_2_68 (by decide)) rfl lay_27 rfl rfl rfl (Nat.le_of_ble_eq_true rfl) c2_forgetRows (fun I1 J1 hc => ?_)
  obtain ⟨h1, e1, rfl⟩ := hc
  refine xr_ic0 dX2_roundsToRest_6 ?_
  refine xr_istore dX2_roundsToRest_7 (Nat.le_of_ble_eq_true rfl) ?_
  show xT _ _ _ 9 [_, _, _, _, _, _, _, _] _ _ _
  refine L 0 (Nat.zero_le _) I1 _ (by show 1 ≤ 1000000; decide) (fun q hq => ?_) e1
  rw [h1 q (by omega), vis_f]
  rintro ⟨p, k, hp, -⟩
  exact absurd hp (Nat.not_lt_zero _)
theorem c8_order {S : xSt} (a n : Int32) (hm : cMc I S.2.1) (hp : cSp I J S.2.1 S.2.2) (hlv : cLv I S.2.1) : xCon G M_X8_order [.ref (G.1 0), .int a, .int n] I J (xpi fun v I' J' => v = sp_order S a n ∧ cLv I' S.2.1 ∧ cfx [27, 28, 29, 30, 31] I J I' J') := by
  have hM := hm.1.1
  have K21 : sp_order S a n = -1 → xT G M_X8_order (xMQ G (xpi fun v I' J' => v = sp_order S a n ∧ cLv I' S.2.1 ∧ cfx [27, 28, 29, 30, 31] I J I' J')) 21 [some (.ref (G.1 0)), some (.int a), some (.int n)] [] I J := by
    intro e
    rw [e]
    refine xr_icm1 dX8_order_21 ?_
    refine xr_iret dX8_order_22 rfl rfl ⟨rfl, hlv, cfx.rf⟩
  refine x_ent (by decide) (Nat.le_of_ble_eq_true rfl) rfl ?_
  show xT _ _ _ 0 [_, _, _] _ _ _
  refine xr_iload1 dX8_order_0 rfl ?_
  refine xr_cSi [_] dX8_order_1 (xcs_of cf_X8_isSpot ml_8_145 (by decide)) rfl rfl (Nat.le_of_ble_eq_true rfl) (c8_isSpot a) (fun v I1 J1 hc => ?_)
  obtain ⟨rfl, rfl, rfl⟩ := hc
  refine xr_if_eq 21 dX8_order_4 (by decide) (fun ha => ?_) (fun ha => ?_)
  · have ha := is_n ha
    exact K21 (by simp [sp_order, ha])
  obtain ⟨w, ha⟩ := is_s ha
  obtain ⟨hw8, rfl⟩ := ix_some ha
  refine xr_aload0 dX8_order_7 rfl ?_
  refine xr_getR dX8_order_8 fk_8_33 lay_0 rfl ?_
  refine xr_iload2 dX8_order_11 rfl ?_
  refine xr_sip si_256 dX8_order_12 ?_
  rw [k_256]
  refine xr_cVi [_, _] dX8_order_15 (xcv_of cf_X3_power ml_8_220 (by decide)) rfl lay_21 rfl rfl rfl (Nat.le_of_ble_eq_true rfl) (c3_power hm.1 n (by decide) (by decide)) (fun v I1 J1 hc => ?_)
  obtain ⟨rfl, rfl, rfl⟩ := hc
  cases hl : lvl (mK S.2.1) n 256 with
  | none =>
    refine xr_if_ne 23 dX8_order_18 (by decide) (fun hz => ?_) (fun hz => ?_)
    · exact absurd rfl hz
    exact K21 (by simp [sp_order, ha, hl])
  | some n' =>
  obtain ⟨rfl, hn⟩ := lvl_some hl
  have hK2 := hM.1
  have hn8 := lvl_8 hK2 hn
  have hpos : 0 < mK S.2.1 ^ n' := Nat.pow_pos (by omega)
  refine xr_if_ne 23 dX8_order_18 (by decide) (fun hz => ?_) (fun hz => ?_)
  rotate_left
  · have := (nI_eq (b := 0) (by omega) (by decide)).mp hz; omega
  refine xr_aload0 dX8_order_23 rfl ?_
  refine xr_getR dX8_order_24 fk_8_33 lay_0 rfl ?_
  refine xr_getIv dX8_order_27 fk_8_139 lay_21 rfl hm.2.2.1 ?_
  refine xr_if_ne 36 dX8_order_30 (by decide) (fun hwh => ?_) (fun hwh => ?_)
  rotate_left
  · have hwh := b2_0.mp hwh
    refine xr_bip bi_m5 dX8_order_33 ?_
    refine xr_iret dX8_order_35 rfl rfl ⟨by simp [sp_order, ha, hl, hwh], hlv, cfx.rf⟩
  have hwh : mW S.2.1 = true := by
    cases hq : mW S.2.1 with
    | true => rfl
    | false => rw [hq] at hwh; exact absurd rfl hwh
  have hwhole := mW_iff.mp hwh
  have hW := isW_s w hw8
  obtain ⟨hwd, hw16, hwr, hwo⟩ := sp_w hp hM hw8
  refine xr_aload0 dX8_order_36 rfl ?_
  refine xr_aload0 dX8_order_37 rfl ?_
  refine xr_getR dX8_order_38 fk_8_17 lay_0 rfl ?_
  refine xr_iload1 dX8_order_41 rfl ?_
  refine xr_aald4 w dX8_order_42 lay_2 rfl hw8 (by decide) ?_
  refine xr_cVi [_] dX8_order_43 (xcv_of cf_X8_hasBackStates ml_8_172 (by decide)) rfl lay_0 rfl rfl rfl (Nat.le_of_ble_eq_true rfl) (c8_hasBackStates hM hm.2.1 hW hwd hw16) (fun v I1 J1 hc => ?_)
  obtain ⟨rfl, rfl, rfl⟩ := hc
  refine xr_if_ne 52 dX8_order_46 (by decide) (fun hb => ?_) (fun hb => ?_)
  rotate_left
  · have hb := b2_0.mp hb
    refine xr_bip bi_m6 dX8_order_49 ?_
    refine xr_iret dX8_order_51 rfl rfl ⟨by simp [sp_order, ha, hl, hwh, hb], hlv, cfx.rf⟩
  have hb : wBk S.2.1 (S.2.2 w) = true := by
    cases hq : wBk S.2.1 (S.2.2 w) with
    | true => rfl
    | false => rw [hq] at hb; exact absurd rfl hb
  have hB := wBk_iff.mp hb
  refine xr_aload0 dX8_order_52 rfl ?_
  refine xr_getR dX8_order_53 fk_8_40 lay_0 rfl ?_
  refine xr_aload0 dX8_order_56 rfl ?_
  refine xr_getR dX8_order_57 fk_8_33 lay_0 rfl ?_
  refine xr_iload2 dX8_order_60 rfl ?_
  refine xr_cVv [_, _] dX8_order_61 (xcv_of cf_X2_build ml_8_223 (by decide)) rfl lay_27 rfl rfl rfl (Nat.le_of_ble_eq_true rfl) (c2_build hm hwhole hn hlv) (fun I1 J1 hc => ?_)
  obtain ⟨lv1, ⟨bt, hbt, tb1⟩, e1, rfl⟩ := hc
  have f1 : cfx [27, 28, 29, 30, 31] I J I1 J := fun a ha => ⟨e1 a (fun q => ha (by rw [q]; simp)) (fun q => ha (by rw [q]; simp)) (fun q => ha (by rw [q]; simp)) (fun q => ha (by rw [q]; simp)), rfl⟩
  refine xr_aload0 dX8_order_64 rfl ?_
  refine xr_getR dX8_order_65 fk_8_40 lay_0 rfl ?_
  refine xr_aload0 dX8_order_68 rfl ?_
  refine xr_getR dX8_order_69 fk_8_17 lay_0 rfl ?_
  refine xr_iload1 dX8_order_72 rfl ?_
  refine xr_aald4 w dX8_order_73 lay_2 rfl hw8 (by decide) ?_
  refine xr_iload2 dX8_order_74 rfl ?_
  refine xr_cVi [_, _] dX8_order_75 (xcv_of cf_X2_roundsToRest ml_8_227 (by decide)) rfl lay_27 rfl rfl rfl (Nat.le_of_ble_eq_true rfl) (c2_roundsToRest hM hwhole hn tb1 hbt hW (by omega) (f1.wd hwd (by simp only [List.mem_cons, List.not_mem_nil, or_false]; omega)) hw16 hB) (fun v I2 J2 hc => ?_)
  obtain ⟨rfl, e2, rfl⟩ := hc
  refine xr_iret dX8_order_78 rfl rfl ⟨?_, lv1.cg (fun a h1 h2 => e2 a (by omega)), f1.tr (fun a ha => ⟨e2 a (fun q => ha (by rw [q]; simp)), rfl⟩)⟩
  simp [sp_order, ha, hl, hwh, hb]
end C28
