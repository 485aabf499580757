section C03
variable {G : xG} {I : xI} {J : xJ}
theorem c3_wireMarks {M : xMac} (h : cMb I M) (hB : cBk I (mB M)) {s x : Nat} (hs : s < mN M) (hx : x < mK M) : xCon G M_X3_wireMarks [.ref (G.1 21), .int (nI s), .int (nI x)] I J (xpv fun I' J' => (I' 24 (4 * (2 * s) + x) = nI (mWr M s x) ∧ I' 25 (4 * (2 * s) + x) = oI ((mGo M s x).map (fun g => 2 * g))) ∧ (mB M s = true → I' 24 (4 * (2 * s + 1) + mWr M s x) = nI x ∧ I' 25 (4 * (2 * s + 1) + mWr M s x) = oI ((mGo M s x).map (fun g => 2 * g + 1))) ∧ (∀ j, j ≠ 4 * (2 * s) + x → (mB M s = false ∨ j ≠ 4 * (2 * s + 1) + mWr M s x) → I' 24 j = I 24 j ∧ I' 25 j = I 25 j) ∧ (∀ a, a ≠ 24 → a ≠ 25 → I' a = I a) ∧ J = J') := by
  have hN8 := h.1.2.2.1
  have hK4 := h.1.2.1
  have hwr := (h.2.2.2 s x hs hx).1
  have hgo := (h.2.2.2 s x hs hx).2
  have hwl := (h.1.2.2.2 s x hs hx).1
  have hgl := (h.1.2.2.2 s x hs hx).2
  generalize hw : mWr M s x = w at *
  generalize hg : mGo M s x = o at *
  have K110 : ∀ I2, I2 24 = upd (upd (I 24) (4 * (2 * s) + x) (nI w)) (4 * (2 * s + 1) + w) (nI x) → I2 25 = upd (I 25) (4 * (2 * s) + x) (oI (o.map (fun g => 2 * g))) → (∀ a, a ≠ 24 → a ≠ 25 → I2 a = I a) → mB M s = true → xT G M_X3_wireMarks (xMQ G (xpv fun I' J' => (I' 24 (4 * (2 * s) + x) = nI w ∧ I' 25 (4 * (2 * s) + x) = oI (o.map (fun g => 2 * g))) ∧ (mB M s = true → I' 24 (4 * (2 * s + 1) + w) = nI x ∧ I' 25 (4 * (2 * s + 1) + w) = oI (o.map (fun g => 2 * g + 1))) ∧ (∀ j, j ≠ 4 * (2 * s) + x → (mB M s = false ∨ j ≠ 4 * (2 * s + 1) + w) → I' 24 j = I 24 j ∧ I' 25 j = I 25 j) ∧ (∀ a, a ≠ 24 → a ≠ 25 → I' a = I a) ∧ J = J')) 110 [some (.ref (G.1 21)), some (.int (nI s)), some (.int (nI x)), some (.int (nI w)), some (.int (oI o)), some (.int (nI (4 * (2 * s) + x))), some (.int (nI (4 * (2 * s + 1) + w)))] [.int (oI (o.map (fun g => 2 * g + 1))), .int (nI (4 * (2 * s + 1) + w)), .ref (G.1 25)] I2 J := by
    intro I2 e24 e25 ea hb
    refine xr_iast (4 * (2 * s + 1) + w) dX3_wireMarks_110 lay_25 rfl (by omega) (by decide) ?_
    refine xr_vret dX3_wireMarks_111 rfl rfl ⟨⟨?_, ?_⟩, fun _ => ⟨?_, ?_⟩, fun j hj hj2 => ⟨?_, ?_⟩, fun a h1 h2 => ?_, rfl⟩
    · rw [va_up_ne _ _ (by decide), e24, upd_ne _ _ (by omega), upd_same]
    · rw [up_same, upd_ne _ _ (by omega), e25, upd_same]
    · rw [va_up_ne _ _ (by decide), e24, upd_same]
    · rw [up_same, upd_same]
    · rw [va_up_ne _ _ (by decide), e24, upd_ne _ _ (hj2.resolve_left (by rw [hb]; decide)), upd_ne _ _ hj]
    · rw [up_same, upd_ne _ _ (hj2.resolve_left (by rw [hb]; decide)), e25, upd_ne _ _ hj]
    · rw [va_up_ne _ _ h2]; exact ea a h1 h2
  have K60 : xT G M_X3_wireMarks (xMQ G (xpv fun I' J' => (I' 24 (4 * (2 * s) + x) = nI w ∧ I' 25 (4 * (2 * s) + x) = oI (o.map (fun g => 2 * g))) ∧ (mB M s = true → I' 24 (4 * (2 * s + 1) + w) = nI x ∧ I' 25 (4 * (2 * s + 1) + w) = oI (o.map (fun g => 2 * g + 1))) ∧ (∀ j, j ≠ 4 * (2 * s) + x → (mB M s = false ∨ j ≠ 4 * (2 * s + 1) + w) → I' 24 j = I 24 j ∧ I' 25 j = I 25 j) ∧ (∀ a, a ≠ 24 → a ≠ 25 → I' a = I a) ∧ J = J')) 60 [some (.ref (G.1 21)), some (.int (nI s)), some (.int (nI x)), some (.int (nI w)), some (.int (oI o)), some (.int (nI (4 * (2 * s) + x))), none] [.int (oI (o.map (fun g => 2 * g))), .int (nI (4 * (2 * s) + x)), .ref (G.1 25)] (va_up I 24 (upd (I 24) (4 * (2 * s) + x) (nI w))) J := by
    refine xr_iast (4 * (2 * s) + x) dX3_wireMarks_60 lay_25 rfl (by omega) (by decide) ?_
    generalize hI2 : va_up (va_up I 24 (upd (I 24) (4 * (2 * s) + x) (nI w))) 25 (upd (va_up I 24 (upd (I 24) (4 * (2 * s) + x) (nI w)) 25) (4 * (2 * s) + x) (oI (o.map (fun g => 2 * g)))) = I2
    have e24 : I2 24 = upd (I 24) (4 * (2 * s) + x) (nI w) := by rw [← hI2, va_up_ne _ _ (by decide), up_same]
    have e25 : I2 25 = upd (I 25) (4 * (2 * s) + x) (oI (o.map (fun g => 2 * g))) := by rw [← hI2, up_same, va_up_ne _ _ (by decide)]
    have ea : ∀ a, a ≠ 24 → a ≠ 25 → I2 a = I a := fun a h1 h2 => by rw [← hI2, va_up_ne _ _ h2, va_up_ne _ _ h1]
    refine xr_aload0 dX3_wireMarks_61 rfl ?_
    refine xr_iload1 dX3_wireMarks_62 rfl ?_
    refine xr_cVi [_] dX3_wireMarks_63 (xcv_of cf_X3_isBack ml_3_73 (by decide)) rfl lay_21 rfl rfl rfl (Nat.le_of_ble_eq_true rfl) (c3_isBack (c := mB M) (by unfold cBk; rw [ea 21 (by decide) (by decide)]; exact hB) (by omega)) (fun v I3 J3 hc => ?_)
    obtain ⟨rfl, rfl, rfl⟩ := hc
    refine xr_if_eq 111 dX3_wireMarks_66 (by decide) (fun hb => ?_) (fun hb => ?_)
    · have hb := b2_0.mp hb
      refine xr_vret dX3_wireMarks_111 rfl rfl ⟨⟨?_, ?_⟩, fun q => ?_, fun j hj hj2 => ⟨?_, ?_⟩, ea, rfl⟩
      · rw [e24, upd_same]
      · rw [e25, upd_same]
      · rw [hb] at q; cases q
      · rw [e24, upd_ne _ _ hj]
      · rw [e25, upd_ne _ _ hj]
    have hb : mB M s = true := by
      cases hq : mB M s with
      | true => rfl
      | false => rw [hq] at hb; exact absurd rfl hb
    refine xr_ic2 dX3_wireMarks_69 ?_
    refine xr_iload1 dX3_wireMarks_70 rfl ?_
    refine xr_imul dX3_wireMarks_71 ?_
    refine xr_ic1 dX3_wireMarks_72 ?_
    refine xr_iadd dX3_wireMarks_73 ?_
    refine xr_ic4 dX3_wireMarks_74 ?_
    refine xr_imul dX3_wireMarks_75 ?_
    refine xr_iload3 dX3_wireMarks_76 rfl ?_
    show xT _ _ _ 77 _ _ _ _
    refine xr_iadd dX3_wireMarks_77 ?_
    rw [show (2 * nI s + 1) * 4 + nI w = nI (4 * (2 * s + 1) + w) by rw [k_2, k_1, k_4, pk_mul, nI_add, pk_mul, nI_add, Nat.mul_comm]]
    refine xr_istore dX3_wireMarks_78 (Nat.le_of_ble_eq_true rfl) ?_
    show xT _ _ _ 80 [_, _, _, _, _, _, _] _ _ _
    refine xr_aload0 dX3_wireMarks_80 rfl ?_
    refine xr_getR dX3_wireMarks_81 fk_3_18 lay_21 rfl ?_
    refine xr_iload dX3_wireMarks_84 rfl ?_
    refine xr_iload2 dX3_wireMarks_86 rfl ?_
    refine xr_iast (4 * (2 * s + 1) + w) dX3_wireMarks_87 lay_24 rfl (by omega) (by decide) ?_
    generalize hI4 : va_up I2 24 (upd (I2 24) (4 * (2 * s + 1) + w) (nI x)) = I4
    have f24 : I4 24 = upd (upd (I 24) (4 * (2 * s) + x) (nI w)) (4 * (2 * s + 1) + w) (nI x) := by rw [← hI4, up_same, e24]
    have f25 : I4 25 = upd (I 25) (4 * (2 * s) + x) (oI (o.map (fun g => 2 * g))) := by rw [← hI4, va_up_ne _ _ (by decide), e25]
    have fa : ∀ a, a ≠ 24 → a ≠ 25 → I4 a = I a := fun a h1 h2 => by rw [← hI4, va_up_ne _ _ h1]; exact ea a h1 h2
    cases o with
    | none =>
      refine xr_aload0 dX3_wireMarks_88 rfl ?_
      refine xr_getR dX3_wireMarks_89 fk_3_21 lay_21 rfl ?_
      refine xr_iload dX3_wireMarks_92 rfl ?_
      refine xr_iload dX3_wireMarks_94 rfl ?_
      refine xr_icm1 dX3_wireMarks_96 ?_
      refine xr_icmp_ne 104 dX3_wireMarks_97 (by decide) (fun hq => ?_) (fun hq => ?_)
      · exact absurd rfl hq
      refine xr_icm1 dX3_wireMarks_100 ?_
      refine xr_goto 110 dX3_wireMarks_101 (by decide) ?_
      exact K110 I4 f24 f25 fa hb
    | some g =>
      have hg8 := hgl g rfl
      refine xr_aload0 dX3_wireMarks_88 rfl ?_
      refine xr_getR dX3_wireMarks_89 fk_3_21 lay_21 rfl ?_
      refine xr_iload dX3_wireMarks_92 rfl ?_
      refine xr_iload dX3_wireMarks_94 rfl ?_
      refine xr_icm1 dX3_wireMarks_96 ?_
      refine xr_icmp_ne 104 dX3_wireMarks_97 (by decide) (fun hq => ?_) (fun hq => ?_)
      rotate_left
      · have := congrArg Int32.toInt hq
        rw [show oI (some g) = nI g from rfl, nI_toInt (by omega), ti_m1] at this
        omega
      refine xr_ic2 dX3_wireMarks_104 ?_
      refine xr_iload dX3_wireMarks_105 rfl ?_
      refine xr_imul dX3_wireMarks_107 ?_
      refine xr_ic1 dX3_wireMarks_108 ?_
      refine xr_iadd dX3_wireMarks_109 ?_
      rw [show oI (some g) = nI g from rfl, k_2, pk_mul, k_1, nI_add]
      exact K110 I4 f24 f25 fa hb
  refine x_ent (by decide) (Nat.le_of_ble_eq_true rfl) rfl ?_
  show xT _ _ _ 0 [_, _, _, _, _, _, _] _ _ _
  refine xr_aload0 dX3_wireMarks_0 rfl ?_
  refine xr_getR dX3_wireMarks_1 fk_3_9 lay_21 rfl ?_
  refine xr_iload1 dX3_wireMarks_4 rfl ?_
  refine xr_ic4 dX3_wireMarks_5 ?_
  refine xr_imul dX3_wireMarks_6 ?_
  refine xr_iload2 dX3_wireMarks_7 rfl ?_
  refine xr_iadd dX3_wireMarks_8 ?_
  refine xr_ialdv (4 * s + x) dX3_wireMarks_9 lay_22 (by rw [k_4, pk_mul, nI_add, Nat.mul_comm]) (by omega) (by decide) hwr ?_
  show xT _ _ _ 10 _ _ _ _
  refine xr_istore3 dX3_wireMarks_10 (Nat.le_of_ble_eq_true rfl) ?_
  show xT _ _ _ 11 [_, _, _, _, _, _, _] _ _ _
  refine xr_aload0 dX3_wireMarks_11 rfl ?_
  refine xr_getR dX3_wireMarks_12 fk_3_15 lay_21 rfl ?_
  refine xr_iload1 dX3_wireMarks_15 rfl ?_
  refine xr_ic4 dX3_wireMarks_16 ?_
  refine xr_imul dX3_wireMarks_17 ?_
  refine xr_iload2 dX3_wireMarks_18 rfl ?_
  refine xr_iadd dX3_wireMarks_19 ?_
  show xT _ _ _ 20 _ _ _ _
  refine xr_ialdv (4 * s + x) dX3_wireMarks_20 lay_23 (by rw [k_4, pk_mul, nI_add, Nat.mul_comm]) (by omega) (by decide) hgo ?_
  refine xr_istore dX3_wireMarks_21 (Nat.le_of_ble_eq_true rfl) ?_
  show xT _ _ _ 23 [_, _, _, _, _, _, _] _ _ _
  refine xr_ic2 dX3_wireMarks_23 ?_
  refine xr_iload1 dX3_wireMarks_24 rfl ?_
  refine xr_imul dX3_wireMarks_25 ?_
  refine xr_ic4 dX3_wireMarks_26 ?_
  refine xr_imul dX3_wireMarks_27 ?_
  refine xr_iload2 dX3_wireMarks_28 rfl ?_
  refine xr_iadd dX3_wireMarks_29 ?_
  show xT _ _ _ 30 _ _ _ _
  rw [show 2 * nI s * 4 + nI x = nI (4 * (2 * s) + x) by rw [k_2, k_4, pk_mul, pk_mul, nI_add, Nat.mul_comm]]
  refine xr_istore dX3_wireMarks_30 (Nat.le_of_ble_eq_true rfl) ?_
  show xT _ _ _ 32 [_, _, _, _, _, _, _] _ _ _
  refine xr_aload0 dX3_wireMarks_32 rfl ?_
  refine xr_getR dX3_wireMarks_33 fk_3_18 lay_21 rfl ?_
  refine xr_iload dX3_wireMarks_36 rfl ?_
  refine xr_iload3 dX3_wireMarks_38 rfl ?_
  refine xr_iast (4 * (2 * s) + x) dX3_wireMarks_39 lay_24 rfl (by omega) (by decide) ?_
  cases o with
  | none =>
    refine xr_aload0 dX3_wireMarks_40 rfl ?_
    refine xr_getR dX3_wireMarks_41 fk_3_21 lay_21 rfl ?_
    refine xr_iload dX3_wireMarks_44 rfl ?_
    refine xr_iload dX3_wireMarks_46 rfl ?_
    refine xr_icm1 dX3_wireMarks_48 ?_
    refine xr_icmp_ne 56 dX3_wireMarks_49 (by decide) (fun hq => ?_) (fun hq => ?_)
    · exact absurd rfl hq
    refine xr_icm1 dX3_wireMarks_52 ?_
    refine xr_goto 60 dX3_wireMarks_53 (by decide) ?_
    exact K60
  | some g =>
    have hg8 := hgl g rfl
    refine xr_aload0 dX3_wireMarks_40 rfl ?_
    refine xr_getR dX3_wireMarks_41 fk_3_21 lay_21 rfl ?_
    refine xr_iload dX3_wireMarks_44 rfl ?_
    refine xr_iload dX3_wireMarks_46 rfl ?_
    refine xr_icm1 dX3_wireMarks_48 ?_
    refine xr_icmp_ne 56 dX3_wireMarks_49 (by decide) (fun hq => ?_) (fun hq => ?_)
    rotate_left
    · have := congrArg Int32.toInt hq
      rw [show oI (some g) = nI g from rfl, nI_toInt (by omega), ti_m1] at this
      omega
    refine xr_ic2 dX3_wireMarks_56 ?_
    refine xr_iload dX3_wireMarks_57 rfl ?_
    refine xr_imul dX3_wireMarks_59 ?_
    rw [show oI (some g) = nI g from rfl, k_2, pk_mul]
    exact K60
end C03
