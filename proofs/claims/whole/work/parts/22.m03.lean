section M03
variable {G : xG} {I : xI} {J : xJ}
theorem c9_isFair {M : xMac} (h : mMach I M) {t : Nat} (ht : t < mN M) : xCon G M_X9_isFair [.ref (G.1 77), .int (nI t)] I J (xpi fun r I' J' => r = b2 (mF M t) ∧ I = I' ∧ J = J') := by
  obtain ⟨⟨hK2, hK4, hN8, hok⟩, hK, hN, hwg⟩ := h
  refine x_ent (by decide) (Nat.le_of_ble_eq_true rfl) rfl ?_
  show xT _ _ _ 0 [_, _, _, _, _] _ _ _
  refine xr_ic1 dX9_isFair_0 ?_
  refine xr_istore2 dX9_isFair_1 (Nat.le_of_ble_eq_true rfl) ?_
  show xT _ _ _ 2 [_, _, _, _, _] _ _ _
  refine xr_ic0 dX9_isFair_2 ?_
  refine xr_istore3 dX9_isFair_3 (Nat.le_of_ble_eq_true rfl) ?_
  show xT _ _ _ 4 [_, _, _, _, _] _ _ _
  have L1 : ∀ x, x ≤ mK M → ∀ (b : Bool) (z : Option Value), (b = true ↔ ∀ x' y', x' < x → y' < x' → mWr M t x' ≠ mWr M t y') → xT G M_X9_isFair (xMQ G (xpi fun r I' J' => r = b2 (mF M t) ∧ I = I' ∧ J = J')) 4 [some (.ref (G.1 77)), some (.int (nI t)), some (.int (b2 b)), some (.int (nI x)), z] [] I J := by
    refine x_for (fun x hx IH b z hb => ?_)
    refine xr_iload3 dX9_isFair_4 rfl ?_
    refine xr_aload0 dX9_isFair_5 rfl ?_
    refine xr_getIv dX9_isFair_6 fk_9_19 lay_77 rfl hK ?_
    refine xr_icmp_ge 67 dX9_isFair_9 (by decide) (fun hc => ?_) (fun hc => ?_)
    · have : x = mK M := by have := nle hc; omega
      subst this
      refine xr_iload2 dX9_isFair_67 rfl ?_
      refine xr_zret dX9_isFair_68 rfl rfl (b2_01 _) ⟨b2_iff (hb.trans mF_iff.symm), rfl, rfl⟩
    · have hx4 := nlt hc
      have IH := IH hx4
      refine xr_ic0 dX9_isFair_12 ?_
      refine xr_istore dX9_isFair_13 (Nat.le_of_ble_eq_true rfl) ?_
      show xT _ _ _ 15 [_, _, _, _, _] _ _ _
      have L2 : ∀ y, y ≤ x → ∀ (b : Bool), (b = true ↔ (∀ x' y', x' < x → y' < x' → mWr M t x' ≠ mWr M t y') ∧ ∀ y', y' < y → mWr M t x ≠ mWr M t y') → xT G M_X9_isFair (xMQ G (xpi fun r I' J' => r = b2 (mF M t) ∧ I = I' ∧ J = J')) 15 [some (.ref (G.1 77)), some (.int (nI t)), some (.int (b2 b)), some (.int (nI x)), some (.int (nI y))] [] I J := by
        refine x_for (fun y hy IH2 b hb => ?_)
        refine xr_iload dX9_isFair_15 rfl ?_
        refine xr_iload3 dX9_isFair_17 rfl ?_
        refine xr_icmp_ge 61 dX9_isFair_18 (by decide) (fun hc2 => ?_) (fun hc2 => ?_)
        · have : y = x := by have := nle hc2; omega
          subst this
          refine xr_iinc dX9_isFair_61 rfl ii_1 (Nat.le_of_ble_eq_true rfl) ?_
          show xT _ _ _ 64 [_, _, _, _, _] _ _ _
          refine xr_goto 4 dX9_isFair_64 (by decide) ?_
          rw [k_1, nI_add]
          refine IH b _ (hb.trans ⟨fun q x' y' h1 h2 => ?_, fun q => ⟨fun x' y' h1 h2 => q x' y' (by omega) h2, fun y' h2 => q y y' (by omega) h2⟩⟩)
          by_cases e : x' = y
          · subst e; exact q.2 y' h2
          · exact q.1 x' y' (by omega) h2
        · have hyx := nlt hc2
          have IH2 := IH2 hyx
          have J54 : ∀ b' : Bool, (b' = true ↔ (b = true ∧ mWr M t x ≠ mWr M t y)) → xT G M_X9_isFair (xMQ G (xpi fun r I' J' => r = b2 (mF M t) ∧ I = I' ∧ J = J')) 54 [some (.ref (G.1 77)), some (.int (nI t)), some (.int (b2 b)), some (.int (nI x)), some (.int (nI y))] [.int (b2 b')] I J := by
            intro b' hb'
            refine xr_istore2 dX9_isFair_54 (Nat.le_of_ble_eq_true rfl) ?_
            show xT _ _ _ 55 [_, _, _, _, _] _ _ _
            refine xr_iinc dX9_isFair_55 rfl ii_1 (Nat.le_of_ble_eq_true rfl) ?_
            show xT _ _ _ 58 [_, _, _, _, _] _ _ _
            refine xr_goto 15 dX9_isFair_58 (by decide) ?_
            rw [k_1, nI_add]
            refine IH2 b' (hb'.trans ⟨fun q => ⟨(hb.mp q.1).1, fun y' h2 => ?_⟩, fun q => ⟨hb.mpr ⟨q.1, fun y' h2 => q.2 y' (by omega)⟩, q.2 y (by omega)⟩⟩)
            by_cases e : y' = y
            · subst e; exact q.2
            · exact (hb.mp q.1).2 y' (by omega)
          refine xr_iload2 dX9_isFair_21 rfl ?_
          refine xr_if_eq 53 dX9_isFair_22 (by decide) (fun hb0 => ?_) (fun hb0 => ?_)
          · refine xr_ic0 dX9_isFair_53 ?_
            exact J54 false ⟨fun q => (by cases q), fun q => by rw [b2_0] at hb0; rw [hb0] at q; exact absurd q.1 (by decide)⟩
          · have hb1 : b = true := by
              cases b with
              | true => rfl
              | false => exact absurd rfl hb0
            refine xr_aload0 dX9_isFair_25 rfl ?_
            refine xr_getR dX9_isFair_26 fk_9_23 lay_77 rfl ?_
            refine xr_ic4 dX9_isFair_29 ?_
            refine xr_iload1 dX9_isFair_30 rfl ?_
            refine xr_imul dX9_isFair_31 ?_
            refine xr_iload3 dX9_isFair_32 rfl ?_
            refine xr_iadd dX9_isFair_33 ?_
            refine xr_ialdv (4 * t + x) dX9_isFair_34 lay_81 (by simp only [k_4, pk_mul, nI_add]) (by omega) (by decide) (hwg t x ht hx4).1 ?_
            refine xr_aload0 dX9_isFair_35 rfl ?_
            refine xr_getR dX9_isFair_36 fk_9_23 lay_77 rfl ?_
            refine xr_ic4 dX9_isFair_39 ?_
            refine xr_iload1 dX9_isFair_40 rfl ?_
            refine xr_imul dX9_isFair_41 ?_
            refine xr_iload dX9_isFair_42 rfl ?_
            refine xr_iadd dX9_isFair_44 ?_
            refine xr_ialdv (4 * t + y) dX9_isFair_45 lay_81 (by simp only [k_4, pk_mul, nI_add]) (by omega) (by decide) (hwg t y ht (by omega)).1 ?_
            have w1 := (hok t x ht hx4).1
            have w2 := (hok t y ht (by omega)).1
            refine xr_icmp_eq 53 dX9_isFair_46 (by decide) (fun he => ?_) (fun he => ?_)
            · have he := (nI_eq (by omega) (by omega)).mp he
              refine xr_ic0 dX9_isFair_53 ?_
              exact J54 false ⟨fun q => (by cases q), fun q => absurd he q.2⟩
            · refine xr_ic1 dX9_isFair_49 ?_
              refine xr_goto 54 dX9_isFair_50 (by decide) ?_
              exact J54 true ⟨fun _ => ⟨hb1, fun e => he (by rw [e])⟩, fun _ => rfl⟩
      exact L2 0 (by omega) b ⟨fun q => ⟨hb.mp q, fun y' h => by omega⟩, fun q => hb.mpr q.1⟩
  exact L1 0 (by omega) true _ ⟨fun _ x' y' h => by omega, fun _ => rfl⟩
theorem c9_isWhole {M : xMac} (h : mMach I M) : xCon G M_X9_isWhole [.ref (G.1 77)] I J (xpi fun r I' J' => r = b2 (mW M) ∧ I = I' ∧ J = J') := by
  obtain ⟨⟨hK2, hK4, hN8, hok⟩, hK, hN, hwg⟩ := h
  refine x_ent (by decide) (Nat.le_of_ble_eq_true rfl) rfl ?_
  show xT _ _ _ 0 [_, _, _, _] _ _ _
  refine xr_ic1 dX9_isWhole_0 ?_
  refine xr_istore1 dX9_isWhole_1 (Nat.le_of_ble_eq_true rfl) ?_
  show xT _ _ _ 2 [_, _, _, _] _ _ _
  refine xr_ic0 dX9_isWhole_2 ?_
  refine xr_istore2 dX9_isWhole_3 (Nat.le_of_ble_eq_true rfl) ?_
  show xT _ _ _ 4 [_, _, _, _] _ _ _
  have L1 : ∀ s, s ≤ mN M → ∀ (b : Bool) (z : Option Value), (b = true ↔ ∀ s' x', s' < s → x' < mK M → ∀ g, mGo M s' x' = some g → g < mN M) → xT G M_X9_isWhole (xMQ G (xpi fun r I' J' => r = b2 (mW M) ∧ I = I' ∧ J = J')) 4 [some (.ref (G.1 77)), some (.int (b2 b)), some (.int (nI s)), z] [] I J := by
    refine x_for (fun s hs IH b z hb => ?_)
    refine xr_iload2 dX9_isWhole_4 rfl ?_
    refine xr_aload0 dX9_isWhole_5 rfl ?_
    refine xr_getIv dX9_isWhole_6 fk_9_116 lay_77 rfl hN ?_
    refine xr_icmp_ge 61 dX9_isWhole_9 (by decide) (fun hc => ?_) (fun hc => ?_)
    · have : s = mN M := by have := nle hc; omega
      subst this
      refine xr_iload1 dX9_isWhole_61 rfl ?_
      refine xr_zret dX9_isWhole_62 rfl rfl (b2_01 _) ⟨b2_iff (hb.trans mW_iff.symm), rfl, rfl⟩
    · have hs4 := nlt hc
      have IH := IH hs4
      refine xr_ic0 dX9_isWhole_12 ?_
      refine xr_istore3 dX9_isWhole_13 (Nat.le_of_ble_eq_true rfl) ?_
      show xT _ _ _ 14 [_, _, _, _] _ _ _
      have L2 : ∀ x, x ≤ mK M → ∀ (b : Bool), (b = true ↔ (∀ s' x', s' < s → x' < mK M → ∀ g, mGo M s' x' = some g → g < mN M) ∧ ∀ x', x' < x → ∀ g, mGo M s x' = some g → g < mN M) → xT G M_X9_isWhole (xMQ G (xpi fun r I' J' => r = b2 (mW M) ∧ I = I' ∧ J = J')) 14 [some (.ref (G.1 77)), some (.int (b2 b)), some (.int (nI s)), some (.int (nI x))] [] I J := by
        refine x_for (fun x hx IH2 b hb => ?_)
        refine xr_iload3 dX9_isWhole_14 rfl ?_
        refine xr_aload0 dX9_isWhole_15 rfl ?_
        refine xr_getIv dX9_isWhole_16 fk_9_19 lay_77 rfl hK ?_
        refine xr_icmp_ge 55 dX9_isWhole_19 (by decide) (fun hc2 => ?_) (fun hc2 => ?_)
        · have : x = mK M := by have := nle hc2; omega
          subst this
          refine xr_iinc dX9_isWhole_55 rfl ii_1 (Nat.le_of_ble_eq_true rfl) ?_
          show xT _ _ _ 58 [_, _, _, _] _ _ _
          refine xr_goto 4 dX9_isWhole_58 (by decide) ?_
          rw [k_1, nI_add]
          refine IH b _ (hb.trans ⟨fun q s' x' h1 h2 => ?_, fun q => ⟨fun s' x' h1 h2 => q s' x' (by omega) h2, fun x' h2 => q s x' (by omega) h2⟩⟩)
          by_cases e : s' = s
          · subst e; exact q.2 x' h2
          · exact q.1 s' x' (by omega) h2
        · have hxK := nlt hc2
          have IH2 := IH2 hxK
          have J48 : ∀ b' : Bool, (b' = true ↔ (b = true ∧ ∀ g, mGo M s x = some g → g < mN M)) → xT G M_X9_isWhole (xMQ G (xpi fun r I' J' => r = b2 (mW M) ∧ I = I' ∧ J = J')) 48 [some (.ref (G.1 77)), some (.int (b2 b)), some (.int (nI s)), some (.int (nI x))] [.int (b2 b')] I J := by
            intro b' hb'
            refine xr_istore1 dX9_isWhole_48 (Nat.le_of_ble_eq_true rfl) ?_
            show xT _ _ _ 49 [_, _, _, _] _ _ _
            refine xr_iinc dX9_isWhole_49 rfl ii_1 (Nat.le_of_ble_eq_true rfl) ?_
            show xT _ _ _ 52 [_, _, _, _] _ _ _
            refine xr_goto 14 dX9_isWhole_52 (by decide) ?_
            rw [k_1, nI_add]
            refine IH2 b' (hb'.trans ⟨fun q => ⟨(hb.mp q.1).1, fun y' h2 => ?_⟩, fun q => ⟨hb.mpr ⟨q.1, fun y' h2 => q.2 y' (by omega)⟩, q.2 x (by omega)⟩⟩)
            by_cases e : y' = x
            · subst e; exact q.2
            · exact (hb.mp q.1).2 y' (by omega)
          refine xr_iload1 dX9_isWhole_22 rfl ?_
          refine xr_if_eq 47 dX9_isWhole_23 (by decide) (fun hb0 => ?_) (fun hb0 => ?_)
          · refine xr_ic0 dX9_isWhole_47 ?_
            exact J48 false ⟨fun q => (by cases q), fun q => by rw [b2_0] at hb0; rw [hb0] at q; exact absurd q.1 (by decide)⟩
          · have hb1 : b = true := by
              cases b with
              | true => rfl
              | false => exact absurd rfl hb0
            refine xr_aload0 dX9_isWhole_26 rfl ?_
            refine xr_getR dX9_isWhole_27 fk_9_26 lay_77 rfl ?_
            refine xr_ic4 dX9_isWhole_30 ?_
            refine xr_iload2 dX9_isWhole_31 rfl ?_
            refine xr_imul dX9_isWhole_32 ?_
            refine xr_iload3 dX9_isWhole_33 rfl ?_
            refine xr_iadd dX9_isWhole_34 ?_
            refine xr_ialdv (4 * s + x) dX9_isWhole_35 lay_82 (by simp only [k_4, pk_mul, nI_add]) (by omega) (by decide) (hwg s x hs4 hxK).2 ?_
            have w2 := (hok s x hs4 hxK).2
            refine xr_aload0 dX9_isWhole_36 rfl ?_
            refine xr_getIv dX9_isWhole_37 fk_9_116 lay_77 rfl hN ?_
            cases hg : mGo M s x with
            | none =>
              refine xr_icmp_ge 47 dX9_isWhole_40 (by decide) (fun he => ?_) (fun he => ?_)
              · exact absurd he (by
                  show ¬ (-1 : Int32) ≥ nI (mN M)
                  have := nI_toInt (n := mN M) (by omega)
                  rw [ge_iff_le, Int32.le_iff_toInt_le, this, show (-1 : Int32).toInt = -1 by decide]
                  omega)
              · refine xr_ic1 dX9_isWhole_43 ?_
                refine xr_goto 48 dX9_isWhole_44 (by decide) ?_
                exact J48 true ⟨fun _ => ⟨hb1, fun g q => (by rw [hg] at q; cases q)⟩, fun _ => rfl⟩
            | some g =>
              have w3 := w2 g hg
              refine xr_icmp_ge 47 dX9_isWhole_40 (by decide) (fun he => ?_) (fun he => ?_)
              · have he := nle he
                refine xr_ic0 dX9_isWhole_47 ?_
                exact J48 false ⟨fun q => (by cases q), fun q => by have := q.2 g hg; omega⟩
              · have he := nlt he
                refine xr_ic1 dX9_isWhole_43 ?_
                refine xr_goto 48 dX9_isWhole_44 (by decide) ?_
                exact J48 true ⟨fun _ => ⟨hb1, fun g' q => by rw [hg] at q; cases q; exact he⟩, fun _ => rfl⟩
      exact L2 0 (by omega) b ⟨fun q => ⟨hb.mp q, fun y' h => by omega⟩, fun q => hb.mpr q.1⟩
  exact L1 0 (by omega) true _ ⟨fun _ x' y' h => by omega, fun _ => rfl⟩
end M03
