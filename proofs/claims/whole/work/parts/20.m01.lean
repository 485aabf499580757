section M01
variable {G : xG} {I : xI} {J : xJ}
theorem c9_in (v lo hi : Int64) : xCon G M_X9_in [.long v, .long lo, .long hi] I J (xpi fun r I' J' => r = b2 (decide (lo ≤ v ∧ v ≤ hi)) ∧ I = I' ∧ J = J') := by
  refine x_ent (by decide) (Nat.le_of_ble_eq_true rfl) rfl ?_
  show xT _ _ _ 0 [_, _, _, _, _, _] _ _ _
  refine xr_lload0 dX9_in_0 rfl ?_
  refine xr_lload2 dX9_in_1 rfl ?_
  refine xr_lcmp dX9_in_2 ?_
  refine xr_if_lt 17 dX9_in_3 (by decide) (fun h => ?_) (fun h => ?_)
  · refine xr_ic0 dX9_in_17 ?_
    refine xr_zret dX9_in_18 rfl rfl (by simp) ⟨b2_N (fun q => absurd h (by rw [lg_cmp_lt]; exact Int64.not_lt.mpr q.1)), rfl, rfl⟩
  · refine xr_lload0 dX9_in_6 rfl ?_
    refine xr_lload dX9_in_7 rfl ?_
    refine xr_lcmp dX9_in_9 ?_
    refine xr_if_gt 17 dX9_in_10 (by decide) (fun h2 => ?_) (fun h2 => ?_)
    · refine xr_ic0 dX9_in_17 ?_
      refine xr_zret dX9_in_18 rfl rfl (by simp) ⟨b2_N (fun q => absurd h2 (fun h2 => absurd ((lg_cmp_gt _ _).mp h2) (Int64.not_lt.mpr q.2))), rfl, rfl⟩
    · refine xr_ic1 dX9_in_13 ?_
      refine xr_goto 18 dX9_in_14 (by decide) ?_
      refine xr_zret dX9_in_18 rfl rfl (by simp) ⟨b2_P ⟨Int64.not_lt.mp (fun q => h ((lg_cmp_lt _ _).mpr q)), Int64.not_lt.mp (fun q => h2 ((lg_cmp_gt _ _).mpr q))⟩, rfl, rfl⟩
theorem c9_isSheet (x : Int32) : xCon G M_X9_isSheet [.int x] I J (xpi fun r I' J' => r = b2 (ix x 4).isSome ∧ I = I' ∧ J = J') := by
  refine x_ent (by decide) (Nat.le_of_ble_eq_true rfl) rfl ?_
  show xT _ _ _ 0 [_] _ _ _
  refine xr_iload0 dX9_isSheet_0 rfl ?_
  refine xr_i2l dX9_isSheet_1 ?_
  refine xr_lc0 dX9_isSheet_2 ?_
  refine xr_ldc2 cs_9_97 dX9_isSheet_3 ?_
  refine xr_cSi [_, _, _] dX9_isSheet_6 (xcs_of cf_X9_in ml_9_99 (by decide)) rfl rfl (Nat.le_of_ble_eq_true rfl) (c9_in _ _ _) (fun v I1 J1 h => ?_)
  obtain ⟨rfl, rfl, rfl⟩ := h
  refine xr_zret dX9_isSheet_9 rfl rfl (b2_01 _) ⟨by rw [in_ix (n := 4) (by decide)], rfl, rfl⟩
theorem c9_isSpot (x : Int32) : xCon G M_X9_isSpot [.int x] I J (xpi fun r I' J' => r = b2 (ix x 8).isSome ∧ I = I' ∧ J = J') := by
  refine x_ent (by decide) (Nat.le_of_ble_eq_true rfl) rfl ?_
  show xT _ _ _ 0 [_] _ _ _
  refine xr_iload0 dX9_isSpot_0 rfl ?_
  refine xr_i2l dX9_isSpot_1 ?_
  refine xr_lc0 dX9_isSpot_2 ?_
  refine xr_ldc2 cs_9_103 dX9_isSpot_3 ?_
  refine xr_cSi [_, _, _] dX9_isSpot_6 (xcs_of cf_X9_in ml_9_99 (by decide)) rfl rfl (Nat.le_of_ble_eq_true rfl) (c9_in _ _ _) (fun v I1 J1 h => ?_)
  obtain ⟨rfl, rfl, rfl⟩ := h
  refine xr_zret dX9_isSpot_9 rfl rfl (b2_01 _) ⟨by rw [in_ix (n := 8) (by decide)], rfl, rfl⟩
theorem c9_sheet {S : xSt} (r kd n : Int32) (h : mIv I S) : xCon G M_X9_sheet [.ref (G.1 77), .int r, .int kd, .int n] I J (xpi fun v I' J' => v = (sp_sheet S r kd n).1 ∧ mIv I' (sp_sheet S r kd n).2 ∧ mfr I J I' J') := by
  refine x_ent (by decide) (Nat.le_of_ble_eq_true rfl) rfl ?_
  show xT _ _ _ 0 [_, _, _, _, _] _ _ _
  refine xr_iload1 dX9_sheet_0 rfl ?_
  refine xr_cSi [_] dX9_sheet_1 (xcs_of cf_X9_isSheet ml_9_105 (by decide)) rfl rfl (Nat.le_of_ble_eq_true rfl) (c9_isSheet _) (fun v I1 J1 hc => ?_)
  obtain ⟨rfl, rfl, rfl⟩ := hc
  refine xr_if_eq 19 dX9_sheet_4 (by decide) (fun hr => ?_) (fun hr => ?_)
  · have hr := is_n hr
    refine xr_icm1 dX9_sheet_19 ?_
    refine xr_iret dX9_sheet_20 rfl rfl ⟨by simp [sp_sheet, hr], by simpa [sp_sheet, hr] using h, mfr.rf⟩
  obtain ⟨r', hr⟩ := is_s hr
  obtain ⟨hr4, rfl⟩ := ix_some hr
  refine xr_iload2 dX9_sheet_7 rfl ?_
  refine xr_i2l dX9_sheet_8 ?_
  refine xr_lc0 dX9_sheet_9 ?_
  refine xr_ldc2 cs_9_109 dX9_sheet_10 ?_
  refine xr_cSi [_, _, _] dX9_sheet_13 (xcs_of cf_X9_in ml_9_99 (by decide)) rfl rfl (Nat.le_of_ble_eq_true rfl) (c9_in _ _ _) (fun v I1 J1 hc => ?_)
  obtain ⟨rfl, rfl, rfl⟩ := hc
  rw [in_ix (n := 3) (by decide)]
  refine xr_if_ne 21 dX9_sheet_16 (by decide) (fun hk => ?_) (fun hk => ?_)
  rotate_left
  · have hk := is_n hk
    refine xr_icm1 dX9_sheet_19 ?_
    refine xr_iret dX9_sheet_20 rfl rfl ⟨by simp [sp_sheet, hr, hk], by simpa [sp_sheet, hr, hk] using h, mfr.rf⟩
  obtain ⟨kd', hk⟩ := is_s hk
  obtain ⟨hk3, rfl⟩ := ix_some hk
  refine xr_iload3 dX9_sheet_21 rfl ?_
  refine xr_if_ge 28 dX9_sheet_22 (by decide) (fun hn => ?_) (fun hn => ?_)
  rotate_left
  · have hn : n < 0 := Int32.not_le.mp hn
    refine xr_bip bi_m4 dX9_sheet_25 ?_
    refine xr_iret dX9_sheet_27 rfl rfl ⟨by simp [sp_sheet, hr, hk, hn], by simpa [sp_sheet, hr, hk, hn] using h, mfr.rf⟩
  have hn : ¬ n < 0 := Int32.not_lt.mpr hn
  refine xr_iload3 dX9_sheet_28 rfl ?_
  refine xr_bip bi_40 dX9_sheet_29 ?_
  refine xr_icmp_le 36 dX9_sheet_31 (by decide) (fun hn2 => ?_) (fun hn2 => ?_)
  rotate_left
  · skip
    have e : ix n 41 = none := by
      cases e : ix n 41 with
      | none => rfl
      | some j =>
        obtain ⟨h1, rfl⟩ := ix_some e
        exact absurd (show nI j ≤ nI 40 from (nI_leI (by omega) (by omega)).mpr (by omega)) hn2
    refine xr_icm1 dX9_sheet_34 ?_
    refine xr_iret dX9_sheet_35 rfl rfl ⟨by simp [sp_sheet, hr, hk, hn, e], by simpa [sp_sheet, hr, hk, hn, e] using h, mfr.rf⟩
  obtain ⟨n', hn40, rfl⟩ := nI_of2 (n := 40) (by decide) hn hn2
  have e : ix (nI n') 41 = some n' := ix_nI (by omega) (by omega)
  refine xr_aload0 dX9_sheet_36 rfl ?_
  refine xr_getR dX9_sheet_37 fk_9_7 lay_77 rfl ?_
  refine xr_iload1 dX9_sheet_40 rfl ?_
  refine xr_iload2 dX9_sheet_41 rfl ?_
  refine xr_iast _ dX9_sheet_42 lay_78 (by (try simp only [k_0, k_1, k_2, k_3, k_4, k_5, k_8, k_16, k_34, k_40, k_200, k_201, k_256, k_512, nI_add, pk_mul]); first | done | rfl) (by omega) (by decide) ?_
  refine xr_aload0 dX9_sheet_43 rfl ?_
  refine xr_getR dX9_sheet_44 fk_9_13 lay_77 rfl ?_
  refine xr_iload1 dX9_sheet_47 rfl ?_
  show xT _ _ _ 48 _ _ _ _
  refine xr_iload3 dX9_sheet_48 rfl ?_
  refine xr_iast _ dX9_sheet_49 lay_79 (by (try simp only [k_0, k_1, k_2, k_3, k_4, k_5, k_8, k_16, k_34, k_40, k_200, k_201, k_256, k_512, nI_add, pk_mul]); first | done | rfl) (by omega) (by decide) ?_
  refine xr_ic0 dX9_sheet_50 ?_
  refine xr_istore dX9_sheet_51 (Nat.le_of_ble_eq_true rfl) ?_
  show xT _ _ _ 53 [_, _, _, _, _] _ _ _
  have L : ∀ (d i : Nat) (I1 : xI), d = n' - i → i ≤ n' → (∀ a, a ≠ 78 → a ≠ 79 → a ≠ 80 → I1 a = I a) → I1 78 = upd (I 78) r' (nI kd') → I1 79 = upd (I 79) r' (nI n') → (∀ j, j < i → I1 80 (40 * r' + j) = 0) → (∀ j, j < 40 * r' ∨ 40 * r' + 40 ≤ j → I1 80 j = I 80 j) → xT G M_X9_sheet (xMQ G (xpi fun v I' J' => v = (sp_sheet S (nI r') (nI kd') (nI n')).1 ∧ mIv I' (sp_sheet S (nI r') (nI kd') (nI n')).2 ∧ mfr I J I' J')) 53 [some (.ref (G.1 77)), some (.int (nI r')), some (.int (nI kd')), some (.int (nI n')), some (.int (nI i))] [] I1 J := by
    intro d
    induction d with
    | zero =>
      intro i I1 hd hi ho h78 h79 hz hrest
      have : i = n' := by omega
      subst this
      refine xr_iload dX9_sheet_53 rfl ?_
      refine xr_iload3 dX9_sheet_55 rfl ?_
      refine xr_icmp_ge 78 dX9_sheet_56 (by decide) (fun hb => ?_) (fun hb => ?_)
      · refine xr_ic1 dX9_sheet_78 ?_
        have e2 : sp_sheet S (nI r') (nI kd') (nI i) = (1, (va_up S.1 r' (some (kd', i, fun _ => 0)), S.2)) := by simp [sp_sheet, hr, hk, hn, e]
        refine xr_iret dX9_sheet_79 rfl rfl ⟨by rw [e2], ?_, fun a ha => ⟨ho a (by omega) (by omega) (by omega), rfl⟩⟩
        rw [e2]
        obtain ⟨h1, h2, h3⟩ := h
        refine ⟨fun q hq => ?_, h2.cg (by rw [ho 77 (by decide) (by decide) (by decide)]) (by rw [ho 77 (by decide) (by decide) (by decide)]) (ho 81 (by decide) (by decide) (by decide)) (ho 82 (by decide) (by decide) (by decide)), h3.cg (ho 83 (by decide) (by decide) (by decide)) (ho 84 (by decide) (by decide) (by decide))⟩
        by_cases hqr : q = r'
        · subst hqr
          simp only [va_up, if_pos, mS1]
          exact ⟨hk3, hn40, by rw [h78, upd_same], by rw [h79, upd_same], fun j hj => hz j hj⟩
        · have h0 := h1 q hq
          simp only [va_up, if_neg hqr]
          unfold mS1 at h0 ⊢
          rw [h78, h79, upd_ne _ _ hqr, upd_ne _ _ hqr]
          cases hs : S.1 q with
          | none => rw [hs] at h0; exact h0
          | some o =>
            rw [hs] at h0
            obtain ⟨a1, a2, a3, a4, a5⟩ := h0
            exact ⟨a1, a2, a3, a4, fun j hj => by rw [hrest _ (by omega)]; exact a5 j hj⟩
      · exact absurd (Int32.le_refl _) hb
    | succ d IH =>
      intro i I1 hd hi ho h78 h79 hz hrest
      refine xr_iload dX9_sheet_53 rfl ?_
      refine xr_iload3 dX9_sheet_55 rfl ?_
      refine xr_icmp_ge 78 dX9_sheet_56 (by decide) (fun hb => ?_) (fun hb => ?_)
      · have := (nI_leI (by omega) (by omega)).mp hb
        omega
      · refine xr_aload0 dX9_sheet_59 rfl ?_
        refine xr_getR dX9_sheet_60 fk_9_16 lay_77 rfl ?_
        refine xr_bip bi_40 dX9_sheet_63 ?_
        refine xr_iload1 dX9_sheet_65 rfl ?_
        refine xr_imul dX9_sheet_66 ?_
        refine xr_iload dX9_sheet_67 rfl ?_
        refine xr_iadd dX9_sheet_69 ?_
        refine xr_ic0 dX9_sheet_70 ?_
        show xT _ _ _ 71 _ _ _ _
        refine xr_iast _ dX9_sheet_71 lay_80 (by (try simp only [k_0, k_1, k_2, k_3, k_4, k_5, k_8, k_16, k_34, k_40, k_200, k_201, k_256, k_512, nI_add, pk_mul]); first | done | rfl) (by omega) (by decide) ?_
        refine xr_iinc dX9_sheet_72 rfl ii_1 (Nat.le_of_ble_eq_true rfl) ?_
        show xT _ _ _ 75 [_, _, _, _, _] _ _ _
        refine xr_goto 53 dX9_sheet_75 (by decide) ?_
        rw [k_1, nI_add]
        refine IH (i + 1) _ (by omega) (by omega) ?_ ?_ ?_ ?_ ?_
        · intro a h1 h2 h3
          rw [va_up_ne _ _ h3]
          exact ho a h1 h2 h3
        · rw [va_up_ne _ _ (by decide)]; exact h78
        · rw [va_up_ne _ _ (by decide)]; exact h79
        · intro j hj
          rw [up_same]
          by_cases hji : j = i
          · subst hji; rw [upd_same]
          · rw [upd_ne _ _ (by omega)]; exact hz j (by omega)
        · intro j hj
          rw [up_same, upd_ne _ _ (by omega)]
          exact hrest j hj
  have e0 : (0 : Int32) = nI 0 := rfl
  rw [e0]
  refine L n' 0 _ (by omega) (by omega) ?_ ?_ ?_ ?_ ?_
  · intro a h1 h2 h3
    rw [va_up_ne _ _ h2, va_up_ne _ _ h1]
  · rw [va_up_ne _ _ (by decide), up_same]
  · rw [up_same, va_up_ne _ _ (by decide)]
  · intro j hj; omega
  · intro j hj
    rw [va_up_ne _ _ (by decide), va_up_ne _ _ (by decide)]
end M01
