section M06
variable {G : xG} {I : xI} {J : xJ}
theorem c9_letters {S : xSt} (k : Int32) (h : mIv I S) : xCon G M_X9_letters [.ref (G.1 77), .int k] I J (xpi fun v I' J' => v = (sp_letters S k).1 ∧ mIv I' (sp_letters S k).2 ∧ mfr I J I' J') := by
  refine x_ent (by decide) (Nat.le_of_ble_eq_true rfl) rfl ?_
  show xT _ _ _ 0 [_, _, _] _ _ _
  refine xr_iload1 dX9_letters_0 rfl ?_
  refine xr_i2l dX9_letters_1 ?_
  refine xr_ldc2 cs_9_109 dX9_letters_2 ?_
  refine xr_ldc2 cs_9_114 dX9_letters_5 ?_
  refine xr_cSi [_, _, _] dX9_letters_8 (xcs_of cf_X9_in ml_9_99 (by decide)) rfl rfl (Nat.le_of_ble_eq_true rfl) (c9_in _ _ _) (fun b I1 J1 hc => ?_)
  obtain ⟨rfl, rfl, rfl⟩ := hc
  rw [in_le (lo := 2) (hi := 4) (by decide) (by decide)]
  refine xr_if_ne 16 dX9_letters_11 (by decide) (fun hk => ?_) (fun hk => ?_)
  rotate_left
  · have hk := b2d hk
    refine xr_icm1 dX9_letters_14 ?_
    refine xr_iret dX9_letters_15 rfl rfl ⟨by rw [sp_letters, if_neg hk], by rw [sp_letters, if_neg hk]; exact h, mfr.rf⟩
  have hk := b2d' hk
  have e : sp_letters S k = (1, (S.1, (w2n k, 0, S.2.1.2.2), fun _ => [])) := by rw [sp_letters, if_pos hk]
  have hk' := hk
  rw [le_toInt, le_toInt, ti_2, ti_4] at hk'
  have L : ∀ w, w ≤ 8 → ∀ I1, mfx [84] [3, 4] I I1 → I1 77 3 = k → I1 77 4 = 0 → (∀ w', w' < w → I1 84 w' = 0) → xT G M_X9_letters (xMQ G (xpi fun v I' J' => v = (sp_letters S k).1 ∧ mIv I' (sp_letters S k).2 ∧ mfr I J I' J')) 28 [some (.ref (G.1 77)), some (.int k), some (.int (nI w))] [] I1 J := by
    refine x_for (fun w hw IH I1 h1 h3 h4 hz => ?_)
    refine xr_iload2 dX9_letters_28 rfl ?_
    refine xr_bip bi_8 dX9_letters_29 ?_
    rw [k_8]
    refine xr_icmp_ge 47 dX9_letters_31 (by decide) (fun hc => ?_) (fun hc => ?_)
    · have : w = 8 := by have := nle hc; omega
      subst this
      refine xr_ic1 dX9_letters_47 ?_
      refine xr_iret dX9_letters_48 rfl rfl ⟨by rw [e], ?_, h1.fr (by decide) rfl⟩
      rw [e]
      refine ⟨h1.sh h.1 (by decide), ⟨⟨?_, ?_, Nat.zero_le _, fun s x hs => absurd hs (Nat.not_lt_zero _)⟩, ?_, h4, fun s x hs => absurd hs (Nat.not_lt_zero _)⟩, fun w hw => ⟨⟨hz w hw, fun i hi => absurd hi (Nat.not_lt_zero _)⟩, wGood.nil⟩⟩
      · show 2 ≤ w2n k
        unfold w2n; omega
      · show w2n k ≤ 4
        unfold w2n; omega
      · rw [h3]
        exact (nI_w2n (by rw [lt_toInt, ti_0]; omega)).symm
    · have hw8 := nlt hc
      have IH := IH hw8
      refine xr_aload0 dX9_letters_34 rfl ?_
      refine xr_getR dX9_letters_35 fk_9_32 lay_77 rfl ?_
      refine xr_iload2 dX9_letters_38 rfl ?_
      refine xr_ic0 dX9_letters_39 ?_
      refine xr_iast _ dX9_letters_40 lay_84 rfl (by omega) (by decide) ?_
      refine xr_iinc dX9_letters_41 rfl ii_1 (Nat.le_of_ble_eq_true rfl) ?_
      show xT _ _ _ 44 [_, _, _] _ _ _
      refine xr_goto 28 dX9_letters_44 (by decide) ?_
      rw [k_1, nI_add]
      refine IH _ (h1.up _ (by decide) (by decide)) (by rw [va_up_ne _ _ (by decide)]; exact h3) (by rw [va_up_ne _ _ (by decide)]; exact h4) (fun w' hw' => ?_)
      rw [up_same]
      by_cases e : w' = w
      · subst e; rw [upd_same]
      · rw [upd_ne _ _ e]; exact hz w' (by omega)
  refine xr_aload0 dX9_letters_16 rfl ?_
  refine xr_iload1 dX9_letters_17 rfl ?_
  refine xr_putI dX9_letters_18 fp_9_19 lay_77 rfl ?_
  refine xr_aload0 dX9_letters_21 rfl ?_
  refine xr_ic0 dX9_letters_22 ?_
  refine xr_putI dX9_letters_23 fp_9_116 lay_77 rfl ?_
  refine xr_ic0 dX9_letters_26 ?_
  refine xr_istore2 dX9_letters_27 (Nat.le_of_ble_eq_true rfl) ?_
  show xT _ _ _ 28 [_, _, _] _ _ _
  show xT _ _ _ 28 _ _ _ _
  rw [k_0]
  refine L 0 (by omega) _ ?_ ?_ ?_ (fun w h => by omega)
  · exact (mfx.rf.up7 (j := 3) k (by decide)).up7 (j := 4) (nI 0) (by decide)
  · rw [up_same, upd_ne _ _ (by decide), up_same, upd_same]
  · rw [up_same, upd_same]; rfl
theorem c9_change {S : xSt} (s x y t : Int32) (h : mIv I S) : xCon G M_X9_change [.ref (G.1 77), .int s, .int x, .int y, .int t] I J (xpi fun v I' J' => v = (sp_change S s x y t).1 ∧ mIv I' (sp_change S s x y t).2 ∧ mfr I J I' J') := by
  obtain ⟨⟨hK2, hK4, hN8, hok⟩, hK, hN, hwg⟩ := id h.2.1
  have kK : (((nI (mK S.2.1)) - 1 : Int32).toInt64).toInt = (mK S.2.1 : Int) - 1 := by rw [Int32.toInt_toInt64, k_1, pk_sub_toInt (by omega) (by decide)]; rfl
  have kN : (((nI (mN S.2.1)) - 1 : Int32).toInt64).toInt = (mN S.2.1 : Int) - 1 := by rw [Int32.toInt_toInt64, k_1, pk_sub_toInt (by omega) (by decide)]; rfl
  refine x_ent (by decide) (Nat.le_of_ble_eq_true rfl) rfl ?_
  show xT _ _ _ 0 [_, _, _, _, _, _, _, _, _] _ _ _
  refine xr_iload1 dX9_change_0 rfl ?_
  refine xr_i2l dX9_change_1 ?_
  refine xr_lc0 dX9_change_2 ?_
  refine xr_aload0 dX9_change_3 rfl ?_
  refine xr_getIv dX9_change_4 fk_9_116 lay_77 rfl hN ?_
  refine xr_ic1 dX9_change_7 ?_
  refine xr_isub dX9_change_8 ?_
  refine xr_i2l dX9_change_9 ?_
  show xT _ _ _ 10 _ _ _ _
  refine xr_cSi [_, _, _] dX9_change_10 (xcs_of cf_X9_in ml_9_99 (by decide)) rfl rfl (Nat.le_of_ble_eq_true rfl) (c9_in _ _ _) (fun b I1 J1 hc => ?_)
  obtain ⟨rfl, rfl, rfl⟩ := hc
  rw [in_ix kN]
  refine xr_if_eq 63 dX9_change_13 (by decide) (fun hs => ?_) (fun hs => ?_)
  · have hs := is_n hs
    refine xr_icm1 dX9_change_63 ?_
    refine xr_iret dX9_change_64 rfl rfl ⟨by simp [sp_change, hs], by simpa [sp_change, hs] using h, mfr.rf⟩
  obtain ⟨s', hs⟩ := is_s hs
  obtain ⟨hsN, rfl⟩ := ix_some hs
  refine xr_iload2 dX9_change_16 rfl ?_
  refine xr_i2l dX9_change_17 ?_
  refine xr_lc0 dX9_change_18 ?_
  refine xr_aload0 dX9_change_19 rfl ?_
  refine xr_getIv dX9_change_20 fk_9_19 lay_77 rfl hK ?_
  refine xr_ic1 dX9_change_23 ?_
  refine xr_isub dX9_change_24 ?_
  refine xr_i2l dX9_change_25 ?_
  show xT _ _ _ 26 _ _ _ _
  refine xr_cSi [_, _, _] dX9_change_26 (xcs_of cf_X9_in ml_9_99 (by decide)) rfl rfl (Nat.le_of_ble_eq_true rfl) (c9_in _ _ _) (fun b I1 J1 hc => ?_)
  obtain ⟨rfl, rfl, rfl⟩ := hc
  rw [in_ix kK]
  refine xr_if_eq 63 dX9_change_29 (by decide) (fun hx => ?_) (fun hx => ?_)
  · have hx := is_n hx
    refine xr_icm1 dX9_change_63 ?_
    refine xr_iret dX9_change_64 rfl rfl ⟨by simp [sp_change, hs, hx], by simpa [sp_change, hs, hx] using h, mfr.rf⟩
  obtain ⟨x', hx⟩ := is_s hx
  obtain ⟨hxK, rfl⟩ := ix_some hx
  refine xr_iload3 dX9_change_32 rfl ?_
  refine xr_i2l dX9_change_33 ?_
  refine xr_lc0 dX9_change_34 ?_
  refine xr_aload0 dX9_change_35 rfl ?_
  refine xr_getIv dX9_change_36 fk_9_19 lay_77 rfl hK ?_
  refine xr_ic1 dX9_change_39 ?_
  refine xr_isub dX9_change_40 ?_
  refine xr_i2l dX9_change_41 ?_
  show xT _ _ _ 42 _ _ _ _
  refine xr_cSi [_, _, _] dX9_change_42 (xcs_of cf_X9_in ml_9_99 (by decide)) rfl rfl (Nat.le_of_ble_eq_true rfl) (c9_in _ _ _) (fun b I1 J1 hc => ?_)
  obtain ⟨rfl, rfl, rfl⟩ := hc
  rw [in_ix kK]
  refine xr_if_eq 63 dX9_change_45 (by decide) (fun hy => ?_) (fun hy => ?_)
  · have hy := is_n hy
    refine xr_icm1 dX9_change_63 ?_
    refine xr_iret dX9_change_64 rfl rfl ⟨by simp [sp_change, hs, hx, hy], by simpa [sp_change, hs, hx, hy] using h, mfr.rf⟩
  obtain ⟨y', hy⟩ := is_s hy
  obtain ⟨hyK, rfl⟩ := ix_some hy
  refine xr_iload dX9_change_48 rfl ?_
  refine xr_i2l dX9_change_50 ?_
  refine xr_ldc2 cs_9_119 dX9_change_51 ?_
  refine xr_ldc2 cs_9_103 dX9_change_54 ?_
  refine xr_cSi [_, _, _] dX9_change_57 (xcs_of cf_X9_in ml_9_99 (by decide)) rfl rfl (Nat.le_of_ble_eq_true rfl) (c9_in _ _ _) (fun b I1 J1 hc => ?_)
  obtain ⟨rfl, rfl, rfl⟩ := hc
  rw [in_le (lo := -1) (hi := 7) (by decide) (by decide)]
  refine xr_if_ne 65 dX9_change_60 (by decide) (fun ht => ?_) (fun ht => ?_)
  rotate_left
  · have ht := b2d ht
    refine xr_icm1 dX9_change_63 ?_
    have e : sp_change S (nI s') (nI x') (nI y') t = (-1, S) := by simp only [sp_change, hs, hx, hy]; rw [if_neg ht]
    refine xr_iret dX9_change_64 rfl rfl ⟨by rw [e], by rw [e]; exact h, mfr.rf⟩
  have ht := b2d' ht
  have e : sp_change S (nI s') (nI x') (nI y') t = (1, (S.1, chSt S.2.1 s' x' y' (i2o t), fun w => if wLost (chSt S.2.1 s' x' y' (i2o t)) (S.2.2 w) then [] else S.2.2 w)) := by
    simp only [sp_change, hs, hx, hy]; rw [if_pos ht]
  rw [e]
  generalize hM' : chSt S.2.1 s' x' y' (i2o t) = M' at e ⊢
  have hmK : mK M' = mK S.2.1 := by rw [← hM']; rfl
  have hmN : mN M' = mN S.2.1 := by rw [← hM']; rfl
  refine xr_aload0 dX9_change_65 rfl ?_
  refine xr_getR dX9_change_66 fk_9_23 lay_77 rfl ?_
  refine xr_ic4 dX9_change_69 ?_
  refine xr_iload1 dX9_change_70 rfl ?_
  refine xr_imul dX9_change_71 ?_
  refine xr_iload2 dX9_change_72 rfl ?_
  refine xr_iadd dX9_change_73 ?_
  refine xr_iload3 dX9_change_74 rfl ?_
  show xT _ _ _ 75 _ _ _ _
  refine xr_iast _ dX9_change_75 lay_81 (by (try simp only [k_0, k_1, k_2, k_3, k_4, k_5, k_8, k_16, k_34, k_40, k_200, k_201, k_256, k_512, nI_add, pk_mul]); first | done | rfl) (by omega) (by decide) ?_
  refine xr_aload0 dX9_change_76 rfl ?_
  refine xr_getR dX9_change_77 fk_9_26 lay_77 rfl ?_
  refine xr_ic4 dX9_change_80 ?_
  refine xr_iload1 dX9_change_81 rfl ?_
  refine xr_imul dX9_change_82 ?_
  refine xr_iload2 dX9_change_83 rfl ?_
  refine xr_iadd dX9_change_84 ?_
  show xT _ _ _ 85 _ _ _ _
  refine xr_iload dX9_change_85 rfl ?_
  refine xr_iast _ dX9_change_87 lay_82 (by (try simp only [k_0, k_1, k_2, k_3, k_4, k_5, k_8, k_16, k_34, k_40, k_200, k_201, k_256, k_512, nI_add, pk_mul]); first | done | rfl) (by omega) (by decide) ?_
  refine xr_ic0 dX9_change_88 ?_
  refine xr_istore dX9_change_89 (Nat.le_of_ble_eq_true rfl) ?_
  show xT _ _ _ 91 [_, _, _, _, _, _, _, _, _] _ _ _
  rw [k_0]
  simp only [k_4, pk_mul, nI_add]
  generalize hI2 : va_up (va_up I 81 (upd (I 81) (4 * s' + x') (nI y'))) 82 (upd (va_up I 81 (upd (I 81) (4 * s' + x') (nI y')) 82) (4 * s' + x') t) = I2
  have f2 : mfx [81, 82, 84, 85] [] I I2 := by rw [← hI2]; exact (mfx.rf.up _ (by decide) (by decide)).up _ (by decide) (by decide)
  have m2 : mMach I2 M' := by
    refine ⟨⟨by rw [hmK]; exact hK2, by rw [hmK]; exact hK4, by rw [hmN]; exact hN8, fun s x h1 h2 => ?_⟩, by rw [f2.2 3 (by decide), hmK]; exact hK, by rw [f2.2 4 (by decide), hmN]; exact hN, fun s x h1 h2 => ?_⟩
    · rw [hmN] at h1; rw [hmK] at h2 ⊢
      rw [← hM']
      show (if s = s' ∧ x = x' then y' else mWr S.2.1 s x) < _ ∧ ∀ g, (if s = s' ∧ x = x' then i2o t else mGo S.2.1 s x) = some g → _
      by_cases q : s = s' ∧ x = x'
      · rw [if_pos q, if_pos q]
        refine ⟨hyK, fun g hg => ?_⟩
        obtain ⟨g1, g2⟩ := i2o_some hg
        have := w2n_le (n := 7) (by decide) g2 ht.2
        omega
      · rw [if_neg q, if_neg q]
        exact hok s x h1 h2
    · rw [hmN] at h1; rw [hmK] at h2
      rw [← hI2, ← hM']
      show _ = nI (if s = s' ∧ x = x' then y' else mWr S.2.1 s x) ∧ _ = oI (if s = s' ∧ x = x' then i2o t else mGo S.2.1 s x)
      rw [up_same, va_up_ne _ _ (show 81 ≠ 82 by decide), up_same, va_up_ne _ _ (show 82 ≠ 81 by decide)]
      by_cases q : s = s' ∧ x = x'
      · rw [if_pos q, if_pos q, q.1, q.2, upd_same, upd_same]
        exact ⟨rfl, (oI_i2o ht.1).symm⟩
      · rw [if_neg q, if_neg q, upd_ne _ _ (by omega), upd_ne _ _ (by omega)]
        exact hwg s x h1 h2
  have L : ∀ w, w ≤ 8 → ∀ I1 (z6 z7 z8 : Option Value), mfx [81, 82, 84, 85] [] I I1 → mMach I1 M' → (∀ v, v < 8 → w ≤ v → I1 84 v = I 84 v) → (∀ v, v < w → I1 84 v = nI (if wLost M' (S.2.2 v) then [] else S.2.2 v).length) → xT G M_X9_change (xMQ G (xpi fun v I' J' => v = (1, ((S.1, M', fun w => if wLost M' (S.2.2 w) then [] else S.2.2 w) : xSt)).1 ∧ mIv I' (1, ((S.1, M', fun w => if wLost M' (S.2.2 w) then [] else S.2.2 w) : xSt)).2 ∧ mfr I J I' J')) 91 [some (.ref (G.1 77)), some (.int (nI s')), some (.int (nI x')), some (.int (nI y')), some (.int t), some (.int (nI w)), z6, z7, z8] [] I1 J := by
    refine x_for (fun w hw IH I1 z6 z7 z8 f1 m1 ho hd => ?_)
    refine xr_iload dX9_change_91 rfl ?_
    refine xr_bip bi_8 dX9_change_93 ?_
    rw [k_8]
    refine xr_icmp_ge 195 dX9_change_95 (by decide) (fun hc => ?_) (fun hc => ?_)
    · have : w = 8 := by have := nle hc; omega
      subst this
      refine xr_ic1 dX9_change_195 ?_
      refine xr_iret dX9_change_196 rfl rfl ⟨rfl, ⟨f1.sh h.1 (by decide), m1, fun v hv => ?_⟩, f1.fr (by decide) rfl⟩
      obtain ⟨⟨w1, w2⟩, w3, w4, w5⟩ := h.2.2 v hv
      show mWd I1 v (if wLost M' (S.2.2 v) then [] else S.2.2 v) ∧ wGood M' (if wLost M' (S.2.2 v) then [] else S.2.2 v)
      refine ⟨⟨hd v hv, ?_⟩, ?_⟩
      · rw [f1.1 83 (by decide) (by decide)]
        split
        · exact fun i hi => absurd hi (Nat.not_lt_zero _)
        · exact w2
      · split
        · exact wGood.nil
        · rename_i hl
          refine ⟨w3, w4, fun m hm => ⟨by rw [hmN]; exact (w5 m hm).1, fun ho => ?_⟩⟩
          rw [← mB_iff]
          cases hq : mB M' (m / 2) with
          | true => rfl
          | false =>
            exfalso
            apply hl
            unfold wLost
            rw [List.any_eq_true]
            exact ⟨m, hm, by simp [ho, hq]⟩
    · have hw8 := nlt hc
      have IH := IH hw8
      obtain ⟨⟨w1, w2⟩, w3, w4, w5⟩ := h.2.2 w hw8
      have hlen : I1 84 w = nI (S.2.2 w).length := by rw [ho w hw8 (Nat.le_refl _)]; exact w1
      refine xr_ic1 dX9_change_98 ?_
      refine xr_istore dX9_change_99 (Nat.le_of_ble_eq_true rfl) ?_
      show xT _ _ _ 101 [_, _, _, _, _, _, _, _, _] _ _ _
      refine xr_ic0 dX9_change_101 ?_
      refine xr_istore dX9_change_102 (Nat.le_of_ble_eq_true rfl) ?_
      show xT _ _ _ 104 [_, _, _, _, _, _, _, _, _] _ _ _
      rw [k_0]
      have L2 : ∀ i, i ≤ (S.2.2 w).length → ∀ I1 (b : Bool) (z8 : Option Value), mfx [81, 82, 84, 85] [] I I1 → mMach I1 M' → (∀ v, v < 8 → w ≤ v → I1 84 v = I 84 v) → (∀ v, v < w → I1 84 v = nI (if wLost M' (S.2.2 v) then [] else S.2.2 v).length) → (b = true ↔ ∀ i' (hi' : i' < (S.2.2 w).length), i' < i → (S.2.2 w)[i'] % 2 = 1 → mBack M' ((S.2.2 w)[i'] / 2)) → xT G M_X9_change (xMQ G (xpi fun v I' J' => v = (1, ((S.1, M', fun w => if wLost M' (S.2.2 w) then [] else S.2.2 w) : xSt)).1 ∧ mIv I' (1, ((S.1, M', fun w => if wLost M' (S.2.2 w) then [] else S.2.2 w) : xSt)).2 ∧ mfr I J I' J')) 104 [some (.ref (G.1 77)), some (.int (nI s')), some (.int (nI x')), some (.int (nI y')), some (.int t), some (.int (nI w)), some (.int (b2 b)), some (.int (nI i)), z8] [] I1 J := by
        refine x_for (fun i hi IH2 I1 b z8 f1 m1 ho hd hb => ?_)
        have hlen : I1 84 w = nI (S.2.2 w).length := by rw [ho w hw8 (Nat.le_refl _)]; exact w1
        refine xr_iload dX9_change_104 rfl ?_
        refine xr_aload0 dX9_change_106 rfl ?_
        refine xr_getR dX9_change_107 fk_9_32 lay_77 rfl ?_
        refine xr_iload dX9_change_110 rfl ?_
        refine xr_ialdv _ dX9_change_112 lay_84 (by (try simp only [k_0, k_1, k_2, k_3, k_4, k_5, k_8, k_16, k_34, k_40, k_200, k_201, k_256, k_512, nI_add, pk_mul]); first | done | rfl) (by omega) (by decide) hlen ?_
        refine xr_icmp_ge 166 dX9_change_113 (by decide) (fun hc2 => ?_) (fun hc2 => ?_)
        · have : i = (S.2.2 w).length := by have := nle hc2; omega
          have hb' : b = true ↔ wLost M' (S.2.2 w) = false := by
            rw [hb]
            unfold wLost
            rw [List.any_eq_false]
            constructor
            · intro q m hm
              obtain ⟨i', hi', rfl⟩ := List.getElem_of_mem hm
              have := q i' hi' (by omega)
              intro q2
              simp only [Bool.and_eq_true, beq_iff_eq, Bool.not_eq_true'] at q2
              rw [mB_iff.mpr (this q2.1)] at q2
              exact absurd q2.2 (by decide)
            · intro q i' hi' _ ho
              have := q _ (List.getElem_mem hi')
              rw [← mB_iff]
              cases hq : mB M' ((S.2.2 w)[i'] / 2) with
              | true => rfl
              | false => exact absurd (by simp [ho, hq]) this
          have J188 : ∀ n, n = (if wLost M' (S.2.2 w) then [] else S.2.2 w).length → xT G M_X9_change (xMQ G (xpi fun v I' J' => v = (1, ((S.1, M', fun w => if wLost M' (S.2.2 w) then [] else S.2.2 w) : xSt)).1 ∧ mIv I' (1, ((S.1, M', fun w => if wLost M' (S.2.2 w) then [] else S.2.2 w) : xSt)).2 ∧ mfr I J I' J')) 188 [some (.ref (G.1 77)), some (.int (nI s')), some (.int (nI x')), some (.int (nI y')), some (.int t), some (.int (nI w)), some (.int (b2 b)), some (.int (nI i)), z8] [.int (nI n), .int (nI w), .ref (G.1 84)] I1 J := by
            intro n hn
            refine xr_iast _ dX9_change_188 lay_84 rfl (by omega) (by decide) ?_
            refine xr_iinc dX9_change_189 rfl ii_1 (Nat.le_of_ble_eq_true rfl) ?_
            show xT _ _ _ 192 [_, _, _, _, _, _, _, _, _] _ _ _
            refine xr_goto 91 dX9_change_192 (by decide) ?_
            rw [k_1, nI_add]
            refine IH _ _ _ _ (f1.up _ (by decide) (by decide)) (m1.cg (by rw [va_up_ne _ _ (by decide)]) (by rw [va_up_ne _ _ (by decide)]) (by rw [va_up_ne _ _ (by decide)]) (by rw [va_up_ne _ _ (by decide)])) (fun v h1 h2 => ?_) (fun v h1 => ?_)
            · rw [up_same, upd_ne _ _ (by omega)]; exact ho v h1 (by omega)
            · rw [up_same]
              by_cases e : v = w
              · subst e; rw [upd_same, hn]
              · rw [upd_ne _ _ e]; exact hd v (by omega)
          refine xr_aload0 dX9_change_166 rfl ?_
          refine xr_getR dX9_change_167 fk_9_32 lay_77 rfl ?_
          refine xr_iload dX9_change_170 rfl ?_
          refine xr_iload dX9_change_172 rfl ?_
          refine xr_if_eq 187 dX9_change_174 (by decide) (fun hb0 => ?_) (fun hb0 => ?_)
          · have hb0 := b2_0.mp hb0
            refine xr_ic0 dX9_change_187 ?_
            have : wLost M' (S.2.2 w) = true := by
              cases hq : wLost M' (S.2.2 w) with
              | true => rfl
              | false => rw [hb'.mpr hq] at hb0; cases hb0
            exact J188 0 (by rw [this]; rfl)
          · have hb0 : b = true := by
              cases b with
              | true => rfl
              | false => exact absurd rfl hb0
            refine xr_aload0 dX9_change_177 rfl ?_
            refine xr_getR dX9_change_178 fk_9_32 lay_77 rfl ?_
            refine xr_iload dX9_change_181 rfl ?_
            refine xr_ialdv _ dX9_change_183 lay_84 (by (try simp only [k_0, k_1, k_2, k_3, k_4, k_5, k_8, k_16, k_34, k_40, k_200, k_201, k_256, k_512, nI_add, pk_mul]); first | done | rfl) (by omega) (by decide) hlen ?_
            refine xr_goto 188 dX9_change_184 (by decide) ?_
            exact J188 _ (by rw [hb'.mp hb0]; rfl)
        · have hil := nlt hc2
          have IH2 := IH2 hil
          refine xr_aload0 dX9_change_116 rfl ?_
          refine xr_getR dX9_change_117 fk_9_29 lay_77 rfl ?_
          refine xr_bip bi_34 dX9_change_120 ?_
          refine xr_iload dX9_change_122 rfl ?_
          refine xr_imul dX9_change_124 ?_
          refine xr_iload dX9_change_125 rfl ?_
          refine xr_iadd dX9_change_127 ?_
          have hw83 : I1 83 (34 * w + i) = tok (S.2.2 w)[i] := by rw [f1.1 83 (by decide) (by decide)]; exact w2 i hil
          refine xr_ialdv (34 * w + i) dX9_change_128 lay_83 (by simp only [k_34, pk_mul, nI_add]) (by omega) (by decide) hw83 ?_
          have hm5 := w5 _ (List.getElem_mem hil)
          generalize hm : (S.2.2 w)[i] = m at hm5 hw83 ⊢
          have J158 : ∀ (I1 : xI) (b' : Bool), mfx [81, 82, 84, 85] [] I I1 → mMach I1 M' → (∀ v, v < 8 → w ≤ v → I1 84 v = I 84 v) → (∀ v, v < w → I1 84 v = nI (if wLost M' (S.2.2 v) then [] else S.2.2 v).length) → (b' = true ↔ (b = true ∧ (m % 2 = 1 → mBack M' (m / 2)))) → xT G M_X9_change (xMQ G (xpi fun v I' J' => v = (1, ((S.1, M', fun w => if wLost M' (S.2.2 w) then [] else S.2.2 w) : xSt)).1 ∧ mIv I' (1, ((S.1, M', fun w => if wLost M' (S.2.2 w) then [] else S.2.2 w) : xSt)).2 ∧ mfr I J I' J')) 158 [some (.ref (G.1 77)), some (.int (nI s')), some (.int (nI x')), some (.int (nI y')), some (.int t), some (.int (nI w)), some (.int (b2 b)), some (.int (nI i)), some (.int (tok m))] [.int (b2 b')] I1 J := by
            intro I1 b' f1 m1 ho hd hb'
            refine xr_istore dX9_change_158 (Nat.le_of_ble_eq_true rfl) ?_
            show xT _ _ _ 160 [_, _, _, _, _, _, _, _, _] _ _ _
            refine xr_iinc dX9_change_160 rfl ii_1 (Nat.le_of_ble_eq_true rfl) ?_
            show xT _ _ _ 163 [_, _, _, _, _, _, _, _, _] _ _ _
            refine xr_goto 104 dX9_change_163 (by decide) ?_
            rw [k_1, nI_add]
            refine IH2 I1 b' _ f1 m1 ho hd (hb'.trans ⟨fun q i' hi' h1 h2 => ?_, fun q => ⟨hb.mpr (fun i' hi' h1 => q i' hi' (by omega)), fun h1 => ?_⟩⟩)
            · by_cases e : i' = i
              · subst e; rw [hm] at h2 ⊢; exact q.2 h2
              · exact hb.mp q.1 i' hi' (by omega) h2
            · have := q i hil (by omega)
              rw [hm] at this
              exact this h1
          refine xr_istore dX9_change_129 (Nat.le_of_ble_eq_true rfl) ?_
          show xT _ _ _ 131 [_, _, _, _, _, _, _, _, _] _ _ _
          refine xr_iload dX9_change_131 rfl ?_
          refine xr_if_eq 157 dX9_change_133 (by decide) (fun hb0 => ?_) (fun hb0 => ?_)
          · have hb0 := b2_0.mp hb0
            refine xr_ic0 dX9_change_157 ?_
            exact J158 I1 false f1 m1 ho hd ⟨fun q => (by cases q), fun q => by rw [hb0] at q; exact absurd q.1 (by decide)⟩
          · have hb0 : b = true := by
              cases b with
              | true => rfl
              | false => exact absurd rfl hb0
            refine xr_iload dX9_change_136 rfl ?_
            rcases Nat.mod_two_eq_zero_or_one m with hev | hodd
            · have et : tok m = nI (m / 2 + 1) := by rw [tok, if_pos hev]
              have hm2 := hm5.1
              refine xr_if_gt 153 dX9_change_138 (by decide) (fun hp => ?_) (fun hp => ?_)
              · skip
                refine xr_ic1 dX9_change_153 ?_
                refine xr_goto 158 dX9_change_154 (by decide) ?_
                exact J158 I1 true f1 m1 ho hd ⟨fun _ => ⟨hb0, fun q => by omega⟩, fun _ => rfl⟩
              · exact absurd (by rw [et]; exact nI_lt (a := 0) (by omega) (by omega)) hp
            · have et : tok m = -nI (m / 2 + 1) := by rw [tok, if_neg (by omega)]
              have hm2 := hm5.1
              refine xr_if_gt 153 dX9_change_138 (by decide) (fun hp => ?_) (fun hp => ?_)
              · rw [et, lt_toInt, ti_0] at hp
                have : (-nI (m / 2 + 1)).toInt = -((m / 2 + 1 : Nat) : Int) := by
                  rw [show -nI (m / 2 + 1) = nI 0 - nI (m / 2 + 1) by rw [← k_0]; grind, pk_sub_toInt (by decide) (by omega)]
                  simp
                omega
              · skip
                refine xr_aload0 dX9_change_141 rfl ?_
                refine xr_iload dX9_change_142 rfl ?_
                refine xr_ineg dX9_change_144 ?_
                refine xr_ic1 dX9_change_145 ?_
                refine xr_isub dX9_change_146 ?_
                have e2 : -tok m - 1 = nI (m / 2) := by rw [et, ← nI_1]; grind
                rw [e2]
                refine xr_cVi [_] dX9_change_147 (xcv_of cf_X9_isBack ml_9_124 (by decide)) rfl lay_77 rfl rfl rfl (Nat.le_of_ble_eq_true rfl) (c9_isBack m1 (by omega)) (fun v I3 J3 hc1 => ?_)
                obtain ⟨rfl, ⟨f, rfl⟩, rfl⟩ := hc1
                have f3 := f1.up (k := 85) f (by decide) (by decide)
                have m3 : mMach (va_up I1 85 f) M' := m1.cg (by rw [va_up_ne _ _ (by decide)]) (by rw [va_up_ne _ _ (by decide)]) (by rw [va_up_ne _ _ (by decide)]) (by rw [va_up_ne _ _ (by decide)])
                have o3 : ∀ v, v < 8 → w ≤ v → va_up I1 85 f 84 v = I 84 v := fun v h1 h2 => by rw [va_up_ne _ _ (by decide)]; exact ho v h1 h2
                have d3 : ∀ v, v < w → va_up I1 85 f 84 v = nI (if wLost M' (S.2.2 v) then [] else S.2.2 v).length := fun v h1 => by rw [va_up_ne _ _ (by decide)]; exact hd v h1
                refine xr_if_eq 157 dX9_change_150 (by decide) (fun hbk => ?_) (fun hbk => ?_)
                · have hbk := b2_0.mp hbk
                  refine xr_ic0 dX9_change_157 ?_
                  exact J158 _ false f3 m3 o3 d3 ⟨fun q => (by cases q), fun q => absurd (q.2 hodd) (mB_f.mp hbk)⟩
                · have hbk : mB M' (m / 2) = true := by
                    cases hq : mB M' (m / 2) with
                    | true => rfl
                    | false => rw [hq] at hbk; exact absurd rfl hbk
                  refine xr_ic1 dX9_change_153 ?_
                  refine xr_goto 158 dX9_change_154 (by decide) ?_
                  exact J158 _ true f3 m3 o3 d3 ⟨fun _ => ⟨hb0, fun _ => mB_iff.mp hbk⟩, fun _ => rfl⟩
      exact L2 0 (by omega) I1 true _ f1 m1 ho hd ⟨fun _ i' hi' h => by omega, fun _ => rfl⟩
  refine L 0 (by omega) I2 _ _ _ f2 m2 (fun v _ _ => ?_) (fun v h => by omega)
  rw [← hI2, va_up_ne _ _ (by decide), va_up_ne _ _ (by decide)]
end M06
