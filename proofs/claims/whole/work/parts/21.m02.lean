section M02
variable {G : xG} {I : xI} {J : xJ}
theorem c9_cell {S : xSt} (r i v : Int32) (h : mIv I S) : xCon G M_X9_cell [.ref (G.1 77), .int r, .int i, .int v] I J (xpi fun a I' J' => a = (sp_cell S r i v).1 ∧ mIv I' (sp_cell S r i v).2 ∧ mfr I J I' J') := by
  refine x_ent (by decide) (Nat.le_of_ble_eq_true rfl) rfl ?_
  show xT _ _ _ 0 [_, _, _, _] _ _ _
  refine xr_iload1 dX9_cell_0 rfl ?_
  refine xr_cSi [_] dX9_cell_1 (xcs_of cf_X9_isSheet ml_9_105 (by decide)) rfl rfl (Nat.le_of_ble_eq_true rfl) (c9_isSheet _) (fun b I1 J1 hc => ?_)
  obtain ⟨rfl, rfl, rfl⟩ := hc
  refine xr_if_ne 9 dX9_cell_4 (by decide) (fun hr => ?_) (fun hr => ?_)
  rotate_left
  · have hr := is_n hr
    refine xr_icm1 dX9_cell_7 ?_
    refine xr_iret dX9_cell_8 rfl rfl ⟨by simp [sp_cell, hr], by simpa [sp_cell, hr] using h, mfr.rf⟩
  obtain ⟨r', hr⟩ := is_s hr
  obtain ⟨hr4, rfl⟩ := ix_some hr
  have h1 := h.1 r' hr4
  refine xr_aload0 dX9_cell_9 rfl ?_
  refine xr_getR dX9_cell_10 fk_9_13 lay_77 rfl ?_
  refine xr_iload1 dX9_cell_13 rfl ?_
  refine xr_iald _ dX9_cell_14 lay_79 (by (try simp only [k_0, k_1, k_2, k_3, k_4, k_5, k_8, k_16, k_34, k_40, k_200, k_201, k_256, k_512, nI_add, pk_mul]); first | done | rfl) (by omega) (by decide) ?_
  cases hs : S.1 r' with
  | none =>
    rw [hs] at h1
    rw [show I 79 r' = -1 from h1]
    refine xr_if_ge 21 dX9_cell_15 (by decide) (fun hn => ?_) (fun hn => ?_)
    · exact absurd hn (by decide)
    · refine xr_bip bi_m3 dX9_cell_18 ?_
      refine xr_iret dX9_cell_20 rfl rfl ⟨by simp [sp_cell, hr, hs], by simpa [sp_cell, hr, hs] using h, mfr.rf⟩
  | some q =>
    rw [hs] at h1
    obtain ⟨a1, a2, a3, a4, a5⟩ := h1
    rw [a4]
    refine xr_if_ge 21 dX9_cell_15 (by decide) (fun hn => ?_) (fun hn => ?_)
    rotate_left
    · exact absurd (nI_pos' (by omega)) hn
    refine xr_iload2 dX9_cell_21 rfl ?_
    refine xr_i2l dX9_cell_22 ?_
    refine xr_lc0 dX9_cell_23 ?_
    refine xr_aload0 dX9_cell_24 rfl ?_
    refine xr_getR dX9_cell_25 fk_9_13 lay_77 rfl ?_
    refine xr_iload1 dX9_cell_28 rfl ?_
    refine xr_ialdv r' dX9_cell_29 lay_79 rfl hr4 (by decide) a4 ?_
    refine xr_ic1 dX9_cell_30 ?_
    refine xr_isub dX9_cell_31 ?_
    refine xr_i2l dX9_cell_32 ?_
    refine xr_cSi [_, _, _] dX9_cell_33 (xcs_of cf_X9_in ml_9_99 (by decide)) rfl rfl (Nat.le_of_ble_eq_true rfl) (c9_in _ _ _) (fun b I1 J1 hc => ?_)
    obtain ⟨rfl, rfl, rfl⟩ := hc
    rw [in_ix (n := q.2.1) (by rw [Int32.toInt_toInt64, k_1, pk_sub_toInt (by omega) (by decide)]; rfl)]
    refine xr_if_ne 41 dX9_cell_36 (by decide) (fun hi => ?_) (fun hi => ?_)
    rotate_left
    · have hi := is_n hi
      refine xr_icm1 dX9_cell_39 ?_
      refine xr_iret dX9_cell_40 rfl rfl ⟨by simp [sp_cell, hr, hs, hi], by simpa [sp_cell, hr, hs, hi] using h, mfr.rf⟩
    obtain ⟨i', hi⟩ := is_s hi
    obtain ⟨hi4, rfl⟩ := ix_some hi
    have e2 : sp_cell S (nI r') (nI i') v = (1, (va_up S.1 r' (some (q.1, q.2.1, upd q.2.2 i' (casts q.1 v))), S.2)) := by simp [sp_cell, hr, hs, hi]
    have fin : ∀ x : Int32, x = casts q.1 v → xT G M_X9_cell (xMQ G (xpi fun a I' J' => a = (sp_cell S (nI r') (nI i') v).1 ∧ mIv I' (sp_cell S (nI r') (nI i') v).2 ∧ mfr I J I' J')) 81 [some (.ref (G.1 77)), some (.int (nI r')), some (.int (nI i')), some (.int v)] [.int x, .int (40 * nI r' + nI i'), .ref (G.1 80)] I J := by
      intro x hx
      refine xr_iast (40 * r' + i') dX9_cell_81 lay_80 (by simp only [k_40, pk_mul, nI_add]) (by omega) (by decide) ?_
      refine xr_ic1 dX9_cell_82 ?_
      refine xr_iret dX9_cell_83 rfl rfl ⟨by rw [e2], ?_, fun a ha => ⟨by rw [va_up_ne _ _ (by omega)], rfl⟩⟩
      rw [e2]
      obtain ⟨b1, b2, b3⟩ := h
      refine ⟨fun p hp => ?_, b2.cg (by rw [va_up_ne _ _ (by decide)]) (by rw [va_up_ne _ _ (by decide)]) (by rw [va_up_ne _ _ (by decide)]) (by rw [va_up_ne _ _ (by decide)]), b3.cg (by rw [va_up_ne _ _ (by decide)]) (by rw [va_up_ne _ _ (by decide)])⟩
      have b0 := b1 p hp
      unfold mS1 at b0 ⊢
      rw [va_up_ne (k := 80) (j := 78) _ _ (by decide), va_up_ne (k := 80) (j := 79) _ _ (by decide), up_same]
      by_cases hpr : p = r'
      · subst hpr
        simp only [up_same]
        refine ⟨a1, a2, a3, a4, fun j hj => ?_⟩
        by_cases hji : j = i'
        · subst hji
          rw [upd_same, upd_same, hx]
        · rw [upd_ne _ _ (by omega), upd_ne _ _ hji]
          exact a5 j hj
      · simp only [va_up_ne _ _ hpr]
        cases hs2 : S.1 p with
        | none => rw [hs2] at b0; exact b0
        | some o =>
          rw [hs2] at b0
          obtain ⟨c1, c2, c3, c4, c5⟩ := b0
          exact ⟨c1, c2, c3, c4, fun j hj => by rw [upd_ne _ _ (by omega)]; exact c5 j hj⟩
    refine xr_aload0 dX9_cell_41 rfl ?_
    refine xr_getR dX9_cell_42 fk_9_16 lay_77 rfl ?_
    refine xr_bip bi_40 dX9_cell_45 ?_
    refine xr_iload1 dX9_cell_47 rfl ?_
    refine xr_imul dX9_cell_48 ?_
    refine xr_iload2 dX9_cell_49 rfl ?_
    refine xr_iadd dX9_cell_50 ?_
    refine xr_aload0 dX9_cell_51 rfl ?_
    show xT _ _ _ 52 _ _ _ _
    refine xr_getR dX9_cell_52 fk_9_7 lay_77 rfl ?_
    refine xr_iload1 dX9_cell_55 rfl ?_
    refine xr_ialdv r' dX9_cell_56 lay_78 rfl hr4 (by decide) a3 ?_
    refine xr_if_ne 65 dX9_cell_57 (by decide) (fun hk => ?_) (fun hk => ?_)
    rotate_left
    · skip
      have hk0 : q.1 = 0 := (nI_eq (by omega) (by decide)).mp hk
      refine xr_iload3 dX9_cell_60 rfl ?_
      refine xr_i2b dX9_cell_61 ?_
      refine xr_goto 81 dX9_cell_62 (by decide) ?_
      exact fin _ (by simp [casts, hk0])
    · have hk0 : ¬ q.1 = 0 := fun e => hk (by rw [e]; rfl)
      refine xr_aload0 dX9_cell_65 rfl ?_
      refine xr_getR dX9_cell_66 fk_9_7 lay_77 rfl ?_
      refine xr_iload1 dX9_cell_69 rfl ?_
      refine xr_ialdv r' dX9_cell_70 lay_78 rfl hr4 (by decide) a3 ?_
      refine xr_ic1 dX9_cell_71 ?_
      refine xr_icmp_ne 80 dX9_cell_72 (by decide) (fun hk1 => ?_) (fun hk1 => ?_)
      rotate_left
      · skip
        have hk0 : q.1 = 1 := (nI_eq (by omega) (by decide)).mp hk1
        refine xr_iload3 dX9_cell_75 rfl ?_
        refine xr_i2s dX9_cell_76 ?_
        refine xr_goto 81 dX9_cell_77 (by decide) ?_
        exact fin _ (by simp [casts, hk0])
      · skip
        have hk1 : ¬ q.1 = 1 := fun e => hk1 (by rw [e]; rfl)
        refine xr_iload3 dX9_cell_80 rfl ?_
        exact fin _ (by simp [casts, hk0, hk1])
theorem c9_told {S : xSt} (r i : Int32) (h : mIv I S) : xCon G M_X9_told [.ref (G.1 77), .int r, .int i] I J (xpi fun a I' J' => a = sp_told S r i ∧ I = I' ∧ J = J') := by
  refine x_ent (by decide) (Nat.le_of_ble_eq_true rfl) rfl ?_
  show xT _ _ _ 0 [_, _, _] _ _ _
  refine xr_iload1 dX9_told_0 rfl ?_
  refine xr_cSi [_] dX9_told_1 (xcs_of cf_X9_isSheet ml_9_105 (by decide)) rfl rfl (Nat.le_of_ble_eq_true rfl) (c9_isSheet _) (fun b I1 J1 hc => ?_)
  obtain ⟨rfl, rfl, rfl⟩ := hc
  refine xr_if_eq 39 dX9_told_4 (by decide) (fun hr => ?_) (fun hr => ?_)
  · have hr := is_n hr
    refine xr_ldc cs_9_113 dX9_told_39 ?_
    refine xr_iret dX9_told_41 rfl rfl ⟨by simp [sp_told, hr], rfl, rfl⟩
  obtain ⟨r', hr⟩ := is_s hr
  obtain ⟨hr4, rfl⟩ := ix_some hr
  have h1 := h.1 r' hr4
  refine xr_iload2 dX9_told_7 rfl ?_
  refine xr_i2l dX9_told_8 ?_
  refine xr_lc0 dX9_told_9 ?_
  refine xr_aload0 dX9_told_10 rfl ?_
  refine xr_getR dX9_told_11 fk_9_13 lay_77 rfl ?_
  refine xr_iload1 dX9_told_14 rfl ?_
  refine xr_iald _ dX9_told_15 lay_79 (by (try simp only [k_0, k_1, k_2, k_3, k_4, k_5, k_8, k_16, k_34, k_40, k_200, k_201, k_256, k_512, nI_add, pk_mul]); first | done | rfl) (by omega) (by decide) ?_
  refine xr_ic1 dX9_told_16 ?_
  show xT _ _ _ 17 _ _ _ _
  refine xr_isub dX9_told_17 ?_
  refine xr_i2l dX9_told_18 ?_
  refine xr_cSi [_, _, _] dX9_told_19 (xcs_of cf_X9_in ml_9_99 (by decide)) rfl rfl (Nat.le_of_ble_eq_true rfl) (c9_in _ _ _) (fun b I1 J1 hc => ?_)
  obtain ⟨rfl, rfl, rfl⟩ := hc
  cases hs : S.1 r' with
  | none =>
    rw [hs] at h1
    rw [show I 79 r' = -1 from h1]
    refine xr_if_eq 39 dX9_told_22 (by decide) (fun hn => ?_) (fun hn => ?_)
    · refine xr_ldc cs_9_113 dX9_told_39 ?_
      refine xr_iret dX9_told_41 rfl rfl ⟨by simp [sp_told, hr, hs], rfl, rfl⟩
    · refine absurd ?_ hn
      rw [b2_0, decide_eq_false_iff_not, Int64.le_iff_toInt_le, Int64.le_iff_toInt_le, show (((-1 : Int32) - 1).toInt64).toInt = -2 by decide]
      simp
      omega
  | some q =>
    rw [hs] at h1
    obtain ⟨a1, a2, a3, a4, a5⟩ := h1
    rw [in_ix (n := q.2.1) (by rw [a4, Int32.toInt_toInt64, k_1, pk_sub_toInt (by omega) (by decide)]; rfl)]
    refine xr_if_eq 39 dX9_told_22 (by decide) (fun hi => ?_) (fun hi => ?_)
    · have hi := is_n hi
      refine xr_ldc cs_9_113 dX9_told_39 ?_
      refine xr_iret dX9_told_41 rfl rfl ⟨by simp [sp_told, hr, hs, hi], rfl, rfl⟩
    obtain ⟨i', hi⟩ := is_s hi
    obtain ⟨hi4, rfl⟩ := ix_some hi
    refine xr_aload0 dX9_told_25 rfl ?_
    refine xr_getR dX9_told_26 fk_9_16 lay_77 rfl ?_
    refine xr_bip bi_40 dX9_told_29 ?_
    refine xr_iload1 dX9_told_31 rfl ?_
    refine xr_imul dX9_told_32 ?_
    refine xr_iload2 dX9_told_33 rfl ?_
    refine xr_iadd dX9_told_34 ?_
    refine xr_iald _ dX9_told_35 lay_80 (by (try simp only [k_0, k_1, k_2, k_3, k_4, k_5, k_8, k_16, k_34, k_40, k_200, k_201, k_256, k_512, nI_add, pk_mul]); first | done | rfl) (by omega) (by decide) ?_
    show xT _ _ _ 36 _ _ _ _
    refine xr_goto 41 dX9_told_36 (by decide) ?_
    refine xr_iret dX9_told_41 rfl rfl ⟨by simp [sp_told, hr, hs, hi, a5 i' hi4], rfl, rfl⟩
theorem c9_lose {S : xSt} (r : Int32) (h : mIv I S) : xCon G M_X9_lose [.ref (G.1 77), .int r] I J (xpi fun a I' J' => a = (sp_lose S r).1 ∧ mIv I' (sp_lose S r).2 ∧ mfr I J I' J') := by
  refine x_ent (by decide) (Nat.le_of_ble_eq_true rfl) rfl ?_
  show xT _ _ _ 0 [_, _] _ _ _
  refine xr_iload1 dX9_lose_0 rfl ?_
  refine xr_cSi [_] dX9_lose_1 (xcs_of cf_X9_isSheet ml_9_105 (by decide)) rfl rfl (Nat.le_of_ble_eq_true rfl) (c9_isSheet _) (fun b I1 J1 hc => ?_)
  obtain ⟨rfl, rfl, rfl⟩ := hc
  refine xr_if_ne 9 dX9_lose_4 (by decide) (fun hr => ?_) (fun hr => ?_)
  rotate_left
  · have hr := is_n hr
    refine xr_icm1 dX9_lose_7 ?_
    refine xr_iret dX9_lose_8 rfl rfl ⟨by simp [sp_lose, hr], by simpa [sp_lose, hr] using h, mfr.rf⟩
  obtain ⟨r', hr⟩ := is_s hr
  obtain ⟨hr4, rfl⟩ := ix_some hr
  have h1 := h.1 r' hr4
  refine xr_aload0 dX9_lose_9 rfl ?_
  refine xr_getR dX9_lose_10 fk_9_13 lay_77 rfl ?_
  refine xr_iload1 dX9_lose_13 rfl ?_
  refine xr_iald _ dX9_lose_14 lay_79 (by (try simp only [k_0, k_1, k_2, k_3, k_4, k_5, k_8, k_16, k_34, k_40, k_200, k_201, k_256, k_512, nI_add, pk_mul]); first | done | rfl) (by omega) (by decide) ?_
  cases hs : S.1 r' with
  | none =>
    rw [hs] at h1
    rw [show I 79 r' = -1 from h1]
    refine xr_if_ge 21 dX9_lose_15 (by decide) (fun hn => ?_) (fun hn => ?_)
    · exact absurd hn (by decide)
    · refine xr_bip bi_m3 dX9_lose_18 ?_
      refine xr_iret dX9_lose_20 rfl rfl ⟨by simp [sp_lose, hr, hs], by simpa [sp_lose, hr, hs] using h, mfr.rf⟩
  | some q =>
    rw [hs] at h1
    obtain ⟨a1, a2, a3, a4, a5⟩ := h1
    rw [a4]
    refine xr_if_ge 21 dX9_lose_15 (by decide) (fun hn => ?_) (fun hn => ?_)
    rotate_left
    · exact absurd (nI_pos' (by omega)) hn
    refine xr_aload0 dX9_lose_21 rfl ?_
    refine xr_getR dX9_lose_22 fk_9_13 lay_77 rfl ?_
    refine xr_iload1 dX9_lose_25 rfl ?_
    refine xr_icm1 dX9_lose_26 ?_
    refine xr_iast _ dX9_lose_27 lay_79 (by (try simp only [k_0, k_1, k_2, k_3, k_4, k_5, k_8, k_16, k_34, k_40, k_200, k_201, k_256, k_512, nI_add, pk_mul]); first | done | rfl) (by omega) (by decide) ?_
    refine xr_ic1 dX9_lose_28 ?_
    have e2 : sp_lose S (nI r') = (1, (va_up S.1 r' none, S.2)) := by simp [sp_lose, hr, hs]
    refine xr_iret dX9_lose_29 rfl rfl ⟨by rw [e2], ?_, fun a ha => ⟨by rw [va_up_ne _ _ (by omega)], rfl⟩⟩
    rw [e2]
    obtain ⟨b1, b2, b3⟩ := h
    refine ⟨fun p hp => ?_, b2.cg (by rw [va_up_ne _ _ (by decide)]) (by rw [va_up_ne _ _ (by decide)]) (by rw [va_up_ne _ _ (by decide)]) (by rw [va_up_ne _ _ (by decide)]), b3.cg (by rw [va_up_ne _ _ (by decide)]) (by rw [va_up_ne _ _ (by decide)])⟩
    have b0 := b1 p hp
    unfold mS1 at b0 ⊢
    rw [va_up_ne (k := 79) (j := 78) _ _ (by decide), va_up_ne (k := 79) (j := 80) _ _ (by decide), up_same]
    by_cases hpr : p = r'
    · subst hpr
      simp only [up_same, upd_same]
    · simp only [va_up_ne _ _ hpr, upd_ne _ _ hpr]
      exact b0
end M02
