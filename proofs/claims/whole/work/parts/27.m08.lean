section M08
variable {G : xG} {I : xI} {J : xJ}
theorem c9_add {w m : Nat} {ws : List Nat} (hw : w < 12) (hW : mWd I w ws) (hl : ws.length ≤ 33) (hm : m < 16) (hws : ∀ q ∈ ws, q < 16) : xCon G M_X9_add [.ref (G.1 77), .int (nI w), .int (tok m)] I J (xpv fun I' J' => mWd I' w (wpush ws m) ∧ mwx [w] I I' ∧ mfx [83, 84] [] I I' ∧ J = J') := by
  obtain ⟨h84, h83⟩ := hW
  have fin : ¬ ws.getLast? = some (opp m) → xT G M_X9_add (xMQ G (xpv fun I' J' => mWd I' w (wpush ws m) ∧ mwx [w] I I' ∧ mfx [83, 84] [] I I' ∧ J = J')) 41 [some (.ref (G.1 77)), some (.int (nI w)), some (.int (tok m)), some (.int (nI ws.length))] [] I J := by
    intro hne
    refine xr_aload0 dX9_add_41 rfl ?_
    refine xr_getR dX9_add_42 fk_9_29 lay_77 rfl ?_
    refine xr_bip bi_34 dX9_add_45 ?_
    refine xr_iload1 dX9_add_47 rfl ?_
    refine xr_imul dX9_add_48 ?_
    refine xr_iload3 dX9_add_49 rfl ?_
    refine xr_iadd dX9_add_50 ?_
    refine xr_iload2 dX9_add_51 rfl ?_
    show xT _ _ _ 52 _ _ _ _
    refine xr_iast _ dX9_add_52 lay_83 (by (try simp only [k_0, k_1, k_2, k_3, k_4, k_5, k_8, k_16, k_34, k_40, k_200, k_201, k_256, k_512, nI_add, pk_mul]); first | done | rfl) (by omega) (by decide) ?_
    refine xr_aload0 dX9_add_53 rfl ?_
    refine xr_getR dX9_add_54 fk_9_32 lay_77 rfl ?_
    refine xr_iload1 dX9_add_57 rfl ?_
    refine xr_iload3 dX9_add_58 rfl ?_
    refine xr_ic1 dX9_add_59 ?_
    refine xr_iadd dX9_add_60 ?_
    refine xr_iast _ dX9_add_61 lay_84 (by (try simp only [k_0, k_1, k_2, k_3, k_4, k_5, k_8, k_16, k_34, k_40, k_200, k_201, k_256, k_512, nI_add, pk_mul]); first | done | rfl) (by omega) (by decide) ?_
    show xT _ _ _ 62 _ _ _ _
    rw [k_1, nI_add, va_up_ne _ _ (show 84 ≠ 83 by decide)]
    refine xr_vret dX9_add_62 rfl rfl ⟨⟨?_, ?_⟩, ?_, (mfx.rf.up _ (by decide) (by decide)).up _ (by decide) (by decide), rfl⟩
    · rw [up_same, upd_same, wpush, if_neg hne]; simp
    · rw [va_up_ne _ _ (show 83 ≠ 84 by decide), up_same]
      show lrep (upd (I 83) (34 * w + ws.length) (tok m)) (34 * w) (wpush ws m) tok
      rw [wpush, if_neg hne]
      exact lrep.push h83 m rfl
    · intro v hv hvw
      have hvw : v ≠ w := fun q => hvw (by rw [q]; exact List.mem_singleton.mpr rfl)
      rw [up_same, va_up_ne _ _ (show 83 ≠ 84 by decide), up_same, upd_ne _ _ hvw]
      refine ⟨rfl, fun i hi => ?_⟩
      rw [upd_ne _ _ (by omega)]
  refine x_ent (by decide) (Nat.le_of_ble_eq_true rfl) rfl ?_
  show xT _ _ _ 0 [_, _, _, _] _ _ _
  refine xr_aload0 dX9_add_0 rfl ?_
  refine xr_getR dX9_add_1 fk_9_32 lay_77 rfl ?_
  refine xr_iload1 dX9_add_4 rfl ?_
  refine xr_ialdv _ dX9_add_5 lay_84 rfl hw (by decide) h84 ?_
  refine xr_istore3 dX9_add_6 (Nat.le_of_ble_eq_true rfl) ?_
  show xT _ _ _ 7 [_, _, _, _] _ _ _
  refine xr_iload3 dX9_add_7 rfl ?_
  refine xr_if_le 41 dX9_add_8 (by decide) (fun h0 => ?_) (fun h0 => ?_)
  · have h0 : ws.length = 0 := by
      have : ws.length ≤ 0 := (nI_leI (a := ws.length) (b := 0) (by omega) (by decide)).mp h0
      omega
    exact fin (by rw [List.eq_nil_of_length_eq_zero h0]; simp)
  · have h0 : 0 < ws.length := by
      apply Nat.pos_of_ne_zero
      intro q
      exact h0 (by rw [q]; decide)
    have hlast := h83 (ws.length - 1) (by omega)
    have hi : (34 * nI w + nI ws.length - 1 : Int32) = nI (34 * w + (ws.length - 1)) := by rw [k_34, k_1, pk_mul, nI_add, pk_sub (by omega)]; congr 1; omega
    refine xr_aload0 dX9_add_11 rfl ?_
    refine xr_getR dX9_add_12 fk_9_29 lay_77 rfl ?_
    refine xr_bip bi_34 dX9_add_15 ?_
    refine xr_iload1 dX9_add_17 rfl ?_
    refine xr_imul dX9_add_18 ?_
    refine xr_iload3 dX9_add_19 rfl ?_
    refine xr_iadd dX9_add_20 ?_
    refine xr_ic1 dX9_add_21 ?_
    show xT _ _ _ 22 _ _ _ _
    refine xr_isub dX9_add_22 ?_
    refine xr_ialdv _ dX9_add_23 lay_83 hi (by omega) (by decide) hlast ?_
    refine xr_iload2 dX9_add_24 rfl ?_
    refine xr_ineg dX9_add_25 ?_
    have hq := hws _ (List.getElem_mem (show ws.length - 1 < ws.length by omega))
    have hgl : ws.getLast? = some ws[ws.length - 1] := by rw [List.getLast?_eq_getElem?, List.getElem?_eq_getElem (by omega)]
    refine xr_icmp_ne 41 dX9_add_26 (by decide) (fun he => ?_) (fun he => ?_)
    · skip
      refine fin (fun q => he ?_)
      rw [hgl] at q
      rw [Option.some.inj q, tok_opp]
    · skip
      have he : ws.getLast? = some (opp m) := by
        rw [hgl]
        rw [← tok_opp] at he
        rw [tok_inj (by omega) (by have := opp_lt (m := m) (n := 8) (by omega); omega) he]
      refine xr_aload0 dX9_add_29 rfl ?_
      refine xr_getR dX9_add_30 fk_9_32 lay_77 rfl ?_
      refine xr_iload1 dX9_add_33 rfl ?_
      refine xr_iload3 dX9_add_34 rfl ?_
      refine xr_ic1 dX9_add_35 ?_
      refine xr_isub dX9_add_36 ?_
      refine xr_iast _ dX9_add_37 lay_84 rfl hw (by decide) ?_
      refine xr_goto 62 dX9_add_38 (by decide) ?_
      rw [k_1, pk_sub (by omega)]
      refine xr_vret dX9_add_62 rfl rfl ⟨⟨?_, ?_⟩, ?_, mfx.rf.up _ (by decide) (by decide), rfl⟩
      · rw [up_same, upd_same, wpush, if_pos he]; simp
      · rw [va_up_ne _ _ (show 83 ≠ 84 by decide)]
        show lrep (I 83) (34 * w) (wpush ws m) tok
        rw [wpush, if_pos he]
        exact lrep.take h83
      · intro v hv hvw
        have hvw : v ≠ w := fun q => hvw (by rw [q]; exact List.mem_singleton.mpr rfl)
        rw [up_same, va_up_ne _ _ (show 83 ≠ 84 by decide), upd_ne _ _ hvw]
        exact ⟨rfl, fun i hi => rfl⟩
theorem c9_copy {to fr : Nat} {ws : List Nat} (ht : to < 12) (hf : fr < 12) (hW : mWd I fr ws) (hl : ws.length ≤ 34) : xCon G M_X9_copy [.ref (G.1 77), .int (nI to), .int (nI fr)] I J (xpv fun I' J' => mWd I' to ws ∧ mwx [to] I I' ∧ mfx [83, 84] [] I I' ∧ J = J') := by
  obtain ⟨h84, h83⟩ := hW
  have L : ∀ i, i ≤ ws.length → ∀ I1, mfx [83, 84] [] I I1 → mwx [to] I I1 → I1 84 to = nI ws.length → I1 84 fr = nI ws.length → (∀ k (hk : k < ws.length), I1 83 (34 * fr + k) = tok ws[k]) → (∀ k (hk : k < ws.length), k < i → I1 83 (34 * to + k) = tok ws[k]) → xT G M_X9_copy (xMQ G (xpv fun I' J' => mWd I' to ws ∧ mwx [to] I I' ∧ mfx [83, 84] [] I I' ∧ J = J')) 14 [some (.ref (G.1 77)), some (.int (nI to)), some (.int (nI fr)), some (.int (nI i))] [] I1 J := by
    refine x_for (fun i hi IH I1 f1 w1 a1 a2 a3 a4 => ?_)
    refine xr_iload3 dX9_copy_14 rfl ?_
    refine xr_aload0 dX9_copy_15 rfl ?_
    refine xr_getR dX9_copy_16 fk_9_32 lay_77 rfl ?_
    refine xr_iload2 dX9_copy_19 rfl ?_
    refine xr_ialdv _ dX9_copy_20 lay_84 rfl hf (by decide) a2 ?_
    refine xr_icmp_ge 52 dX9_copy_21 (by decide) (fun hc => ?_) (fun hc => ?_)
    · have : i = ws.length := by have := nle hc; omega
      refine xr_vret dX9_copy_52 rfl rfl ⟨⟨a1, fun k hk => a4 k hk (by omega)⟩, w1, f1, rfl⟩
    · have hil := nlt hc
      have IH := IH hil
      refine xr_aload0 dX9_copy_24 rfl ?_
      refine xr_getR dX9_copy_25 fk_9_29 lay_77 rfl ?_
      refine xr_bip bi_34 dX9_copy_28 ?_
      refine xr_iload1 dX9_copy_30 rfl ?_
      refine xr_imul dX9_copy_31 ?_
      refine xr_iload3 dX9_copy_32 rfl ?_
      refine xr_iadd dX9_copy_33 ?_
      refine xr_aload0 dX9_copy_34 rfl ?_
      show xT _ _ _ 35 _ _ _ _
      refine xr_getR dX9_copy_35 fk_9_29 lay_77 rfl ?_
      refine xr_bip bi_34 dX9_copy_38 ?_
      refine xr_iload2 dX9_copy_40 rfl ?_
      refine xr_imul dX9_copy_41 ?_
      refine xr_iload3 dX9_copy_42 rfl ?_
      refine xr_iadd dX9_copy_43 ?_
      refine xr_ialdv _ dX9_copy_44 lay_83 (by (try simp only [k_0, k_1, k_2, k_3, k_4, k_5, k_8, k_16, k_34, k_40, k_200, k_201, k_256, k_512, nI_add, pk_mul]); first | done | rfl) (by omega) (by decide) (a3 i hil) ?_
      refine xr_iast _ dX9_copy_45 lay_83 (by (try simp only [k_0, k_1, k_2, k_3, k_4, k_5, k_8, k_16, k_34, k_40, k_200, k_201, k_256, k_512, nI_add, pk_mul]); first | done | rfl) (by omega) (by decide) ?_
      show xT _ _ _ 46 _ _ _ _
      refine xr_iinc dX9_copy_46 rfl ii_1 (Nat.le_of_ble_eq_true rfl) ?_
      show xT _ _ _ 49 [_, _, _, _] _ _ _
      refine xr_goto 14 dX9_copy_49 (by decide) ?_
      rw [k_1, nI_add]
      have wr : ∀ j, (va_up I1 83 (upd (I1 83) (34 * to + i) (tok ws[i]))) 83 j = if j = 34 * to + i then tok ws[i] else I1 83 j := fun j => by
        rw [up_same]
        by_cases e : j = 34 * to + i
        · rw [if_pos e, e, upd_same]
        · rw [if_neg e, upd_ne _ _ e]
      refine IH _ (f1.up _ (by decide) (by decide)) ?_ (by rw [va_up_ne _ _ (by decide)]; exact a1) (by rw [va_up_ne _ _ (by decide)]; exact a2) (fun k hk => ?_) (fun k hk hki => ?_)
      · intro v hv hvw
        have hvw' : v ≠ to := fun q => hvw (by rw [q]; exact List.mem_singleton.mpr rfl)
        refine ⟨by rw [va_up_ne _ _ (by decide)]; exact (w1 v hv hvw).1, fun j hj => ?_⟩
        rw [wr, if_neg (by omega)]
        exact (w1 v hv hvw).2 j hj
      · rw [wr]
        by_cases e : 34 * fr + k = 34 * to + i
        · rw [if_pos e]
          have : k = i := by omega
          subst this; rfl
        · rw [if_neg e]; exact a3 k hk
      · rw [wr]
        by_cases e : k = i
        · subst e; rw [if_pos rfl]
        · rw [if_neg (by omega)]; exact a4 k hk (by omega)
  refine x_ent (by decide) (Nat.le_of_ble_eq_true rfl) rfl ?_
  show xT _ _ _ 0 [_, _, _, _] _ _ _
  refine xr_aload0 dX9_copy_0 rfl ?_
  refine xr_getR dX9_copy_1 fk_9_32 lay_77 rfl ?_
  refine xr_iload1 dX9_copy_4 rfl ?_
  refine xr_aload0 dX9_copy_5 rfl ?_
  refine xr_getR dX9_copy_6 fk_9_32 lay_77 rfl ?_
  refine xr_iload2 dX9_copy_9 rfl ?_
  refine xr_ialdv _ dX9_copy_10 lay_84 rfl hf (by decide) h84 ?_
  refine xr_iast _ dX9_copy_11 lay_84 rfl ht (by decide) ?_
  show xT _ _ _ 12 _ _ _ _
  refine xr_ic0 dX9_copy_12 ?_
  refine xr_istore3 dX9_copy_13 (Nat.le_of_ble_eq_true rfl) ?_
  show xT _ _ _ 14 [_, _, _, _] _ _ _
  rw [k_0]
  refine L 0 (by omega) _ (mfx.rf.up _ (by decide) (by decide)) (fun v hv hvw => ?_) (by rw [up_same, upd_same]) ?_ (fun k hk => by rw [va_up_ne _ _ (by decide)]; exact h83 k hk) (fun k hk h => by omega)
  · have hvw' : v ≠ to := fun q => hvw (by rw [q]; exact List.mem_singleton.mpr rfl)
    rw [up_same, upd_ne _ _ hvw', va_up_ne _ _ (by decide)]
    exact ⟨rfl, fun _ _ => rfl⟩
  · rw [up_same]
    by_cases e : fr = to
    · rw [e, upd_same]
    · rw [upd_ne _ _ e]; exact h84
theorem c9_wipe {S : xSt} (spot : Int32) (h : mIv I S) : xCon G M_X9_wipe [.ref (G.1 77), .int spot] I J (xpi fun v I' J' => v = (sp_wipe S spot).1 ∧ mIv I' (sp_wipe S spot).2 ∧ mfr I J I' J') := by
  refine x_ent (by decide) (Nat.le_of_ble_eq_true rfl) rfl ?_
  show xT _ _ _ 0 [_, _, _] _ _ _
  refine xr_iload1 dX9_wipe_0 rfl ?_
  refine xr_cSi [_] dX9_wipe_1 (xcs_of cf_X9_isSpot ml_9_137 (by decide)) rfl rfl (Nat.le_of_ble_eq_true rfl) (c9_isSpot _) (fun b I1 J1 hc => ?_)
  obtain ⟨rfl, rfl, rfl⟩ := hc
  refine xr_if_ne 9 dX9_wipe_4 (by decide) (fun hr => ?_) (fun hr => ?_)
  rotate_left
  · have hr := is_n hr
    refine xr_icm1 dX9_wipe_7 ?_
    refine xr_iret dX9_wipe_8 rfl rfl ⟨by simp [sp_wipe, hr], by simpa [sp_wipe, hr] using h, mfr.rf⟩
  obtain ⟨w, hr⟩ := is_s hr
  obtain ⟨hw8, rfl⟩ := ix_some hr
  have hw := h.2.2 w hw8
  refine xr_aload0 dX9_wipe_9 rfl ?_
  refine xr_getR dX9_wipe_10 fk_9_32 lay_77 rfl ?_
  refine xr_iload1 dX9_wipe_13 rfl ?_
  refine xr_ialdv _ dX9_wipe_14 lay_84 (by (try simp only [k_0, k_1, k_2, k_3, k_4, k_5, k_8, k_16, k_34, k_40, k_200, k_201, k_256, k_512, nI_add, pk_mul]); first | done | rfl) (by omega) (by decide) hw.1.1 ?_
  refine xr_istore2 dX9_wipe_15 (Nat.le_of_ble_eq_true rfl) ?_
  show xT _ _ _ 16 [_, _, _] _ _ _
  refine xr_aload0 dX9_wipe_16 rfl ?_
  refine xr_getR dX9_wipe_17 fk_9_32 lay_77 rfl ?_
  refine xr_iload1 dX9_wipe_20 rfl ?_
  show xT _ _ _ 21 _ _ _ _
  refine xr_ic0 dX9_wipe_21 ?_
  refine xr_iast _ dX9_wipe_22 lay_84 (by (try simp only [k_0, k_1, k_2, k_3, k_4, k_5, k_8, k_16, k_34, k_40, k_200, k_201, k_256, k_512, nI_add, pk_mul]); first | done | rfl) (by omega) (by decide) ?_
  refine xr_iload2 dX9_wipe_23 rfl ?_
  have e : sp_wipe S (nI w) = (nI (S.2.2 w).length, (S.1, S.2.1, va_up S.2.2 w [])) := by simp [sp_wipe, hr]
  have f1 : mfx [84] [] I (va_up I 84 (upd (I 84) w 0)) := mfx.rf.up _ (by decide) (by decide)
  refine xr_iret dX9_wipe_24 rfl rfl ⟨by rw [e], ?_, f1.fr (by decide) rfl⟩
  rw [e]
  refine ⟨f1.sh h.1 (by decide), f1.mach h.2.1 (by decide) (by decide), h.2.2.set (W := []) (fun v hv hvw => ?_) (by decide) ⟨by rw [up_same, upd_same]; rfl, fun i hi => absurd hi (Nat.not_lt_zero _)⟩ wGood.nil⟩
  have hvw : v ≠ w := fun q => hvw (by rw [q]; exact List.mem_singleton.mpr rfl)
  rw [up_same, upd_ne _ _ hvw, va_up_ne _ _ (by decide)]
  exact ⟨rfl, fun _ _ => rfl⟩
theorem c9_size {S : xSt} (spot : Int32) (h : mIv I S) : xCon G M_X9_size [.ref (G.1 77), .int spot] I J (xpi fun v I' J' => v = sp_size S spot ∧ I = I' ∧ J = J') := by
  refine x_ent (by decide) (Nat.le_of_ble_eq_true rfl) rfl ?_
  show xT _ _ _ 0 [_, _] _ _ _
  refine xr_iload1 dX9_size_0 rfl ?_
  refine xr_cSi [_] dX9_size_1 (xcs_of cf_X9_isSpot ml_9_137 (by decide)) rfl rfl (Nat.le_of_ble_eq_true rfl) (c9_isSpot _) (fun b I1 J1 hc => ?_)
  obtain ⟨rfl, rfl, rfl⟩ := hc
  refine xr_if_eq 16 dX9_size_4 (by decide) (fun hr => ?_) (fun hr => ?_)
  · have hr := is_n hr
    refine xr_icm1 dX9_size_16 ?_
    refine xr_iret dX9_size_17 rfl rfl ⟨by simp [sp_size, hr], rfl, rfl⟩
  obtain ⟨w, hr⟩ := is_s hr
  obtain ⟨hw8, rfl⟩ := ix_some hr
  have hw := h.2.2 w hw8
  refine xr_aload0 dX9_size_7 rfl ?_
  refine xr_getR dX9_size_8 fk_9_32 lay_77 rfl ?_
  refine xr_iload1 dX9_size_11 rfl ?_
  refine xr_ialdv _ dX9_size_12 lay_84 (by (try simp only [k_0, k_1, k_2, k_3, k_4, k_5, k_8, k_16, k_34, k_40, k_200, k_201, k_256, k_512, nI_add, pk_mul]); first | done | rfl) (by omega) (by decide) hw.1.1 ?_
  refine xr_goto 17 dX9_size_13 (by decide) ?_
  refine xr_iret dX9_size_17 rfl rfl ⟨by simp [sp_size, hr], rfl, rfl⟩
theorem c9_token {S : xSt} (spot i : Int32) (h : mIv I S) : xCon G M_X9_token [.ref (G.1 77), .int spot, .int i] I J (xpi fun v I' J' => v = sp_token S spot i ∧ I = I' ∧ J = J') := by
  refine x_ent (by decide) (Nat.le_of_ble_eq_true rfl) rfl ?_
  show xT _ _ _ 0 [_, _, _] _ _ _
  refine xr_iload1 dX9_token_0 rfl ?_
  refine xr_cSi [_] dX9_token_1 (xcs_of cf_X9_isSpot ml_9_137 (by decide)) rfl rfl (Nat.le_of_ble_eq_true rfl) (c9_isSpot _) (fun b I1 J1 hc => ?_)
  obtain ⟨rfl, rfl, rfl⟩ := hc
  refine xr_if_eq 39 dX9_token_4 (by decide) (fun hr => ?_) (fun hr => ?_)
  · have hr := is_n hr
    refine xr_ic0 dX9_token_39 ?_
    refine xr_iret dX9_token_40 rfl rfl ⟨by simp [sp_token, hr], rfl, rfl⟩
  obtain ⟨w, hr⟩ := is_s hr
  obtain ⟨hw8, rfl⟩ := ix_some hr
  obtain ⟨⟨h84, h83⟩, hl, -⟩ := h.2.2 w hw8
  refine xr_iload2 dX9_token_7 rfl ?_
  refine xr_i2l dX9_token_8 ?_
  refine xr_lc0 dX9_token_9 ?_
  refine xr_aload0 dX9_token_10 rfl ?_
  refine xr_getR dX9_token_11 fk_9_32 lay_77 rfl ?_
  refine xr_iload1 dX9_token_14 rfl ?_
  refine xr_ialdv _ dX9_token_15 lay_84 (by (try simp only [k_0, k_1, k_2, k_3, k_4, k_5, k_8, k_16, k_34, k_40, k_200, k_201, k_256, k_512, nI_add, pk_mul]); first | done | rfl) (by omega) (by decide) h84 ?_
  refine xr_ic1 dX9_token_16 ?_
  show xT _ _ _ 17 _ _ _ _
  refine xr_isub dX9_token_17 ?_
  refine xr_i2l dX9_token_18 ?_
  refine xr_cSi [_, _, _] dX9_token_19 (xcs_of cf_X9_in ml_9_99 (by decide)) rfl rfl (Nat.le_of_ble_eq_true rfl) (c9_in _ _ _) (fun b I1 J1 hc => ?_)
  obtain ⟨rfl, rfl, rfl⟩ := hc
  rw [in_ix (n := (S.2.2 w).length) (by rw [Int32.toInt_toInt64, k_1, pk_sub_toInt (by omega) (by decide)]; rfl)]
  refine xr_if_eq 39 dX9_token_22 (by decide) (fun hi => ?_) (fun hi => ?_)
  · have hi := is_n hi
    refine xr_ic0 dX9_token_39 ?_
    refine xr_iret dX9_token_40 rfl rfl ⟨by simp [sp_token, hr, hi], rfl, rfl⟩
  obtain ⟨i', hi⟩ := is_s hi
  obtain ⟨hil, rfl⟩ := ix_some hi
  refine xr_aload0 dX9_token_25 rfl ?_
  refine xr_getR dX9_token_26 fk_9_29 lay_77 rfl ?_
  refine xr_bip bi_34 dX9_token_29 ?_
  refine xr_iload1 dX9_token_31 rfl ?_
  refine xr_imul dX9_token_32 ?_
  refine xr_iload2 dX9_token_33 rfl ?_
  refine xr_iadd dX9_token_34 ?_
  refine xr_ialdv _ dX9_token_35 lay_83 (by (try simp only [k_0, k_1, k_2, k_3, k_4, k_5, k_8, k_16, k_34, k_40, k_200, k_201, k_256, k_512, nI_add, pk_mul]); first | done | rfl) (by omega) (by decide) (h83 i' hil) ?_
  show xT _ _ _ 36 _ _ _ _
  refine xr_goto 40 dX9_token_36 (by decide) ?_
  refine xr_iret dX9_token_40 rfl rfl ⟨by simp [sp_token, hr, hi, hil], rfl, rfl⟩
theorem c9_times {S : xSt} (a b to : Int32) (h : mIv I S) : xCon G M_X9_times [.ref (G.1 77), .int a, .int b, .int to] I J (xpi fun v I' J' => v = (sp_times S a b to).1 ∧ mIv I' (sp_times S a b to).2 ∧ mfr I J I' J') := by
  refine x_ent (by decide) (Nat.le_of_ble_eq_true rfl) rfl ?_
  show xT _ _ _ 0 [_, _, _, _, _] _ _ _
  refine xr_iload1 dX9_times_0 rfl ?_
  refine xr_cSi [_] dX9_times_1 (xcs_of cf_X9_isSpot ml_9_137 (by decide)) rfl rfl (Nat.le_of_ble_eq_true rfl) (c9_isSpot _) (fun v I1 J1 hc => ?_)
  obtain ⟨rfl, rfl, rfl⟩ := hc
  refine xr_if_eq 21 dX9_times_4 (by decide) (fun ha => ?_) (fun ha => ?_)
  · have ha := is_n ha
    refine xr_icm1 dX9_times_21 ?_
    refine xr_iret dX9_times_22 rfl rfl ⟨by simp [sp_times, ha], by simpa [sp_times, ha] using h, mfr.rf⟩
  obtain ⟨a', ha⟩ := is_s ha
  obtain ⟨ha8, rfl⟩ := ix_some ha
  refine xr_iload2 dX9_times_7 rfl ?_
  refine xr_cSi [_] dX9_times_8 (xcs_of cf_X9_isSpot ml_9_137 (by decide)) rfl rfl (Nat.le_of_ble_eq_true rfl) (c9_isSpot _) (fun v I1 J1 hc => ?_)
  obtain ⟨rfl, rfl, rfl⟩ := hc
  refine xr_if_eq 21 dX9_times_11 (by decide) (fun hb => ?_) (fun hb => ?_)
  · have hb := is_n hb
    refine xr_icm1 dX9_times_21 ?_
    refine xr_iret dX9_times_22 rfl rfl ⟨by simp [sp_times, ha, hb], by simpa [sp_times, ha, hb] using h, mfr.rf⟩
  obtain ⟨b', hb⟩ := is_s hb
  obtain ⟨hb8, rfl⟩ := ix_some hb
  refine xr_iload3 dX9_times_14 rfl ?_
  refine xr_cSi [_] dX9_times_15 (xcs_of cf_X9_isSpot ml_9_137 (by decide)) rfl rfl (Nat.le_of_ble_eq_true rfl) (c9_isSpot _) (fun v I1 J1 hc => ?_)
  obtain ⟨rfl, rfl, rfl⟩ := hc
  refine xr_if_ne 23 dX9_times_18 (by decide) (fun hto => ?_) (fun hto => ?_)
  rotate_left
  · have hto := is_n hto
    refine xr_icm1 dX9_times_21 ?_
    refine xr_iret dX9_times_22 rfl rfl ⟨by simp [sp_times, ha, hb, hto], by simpa [sp_times, ha, hb, hto] using h, mfr.rf⟩
  obtain ⟨to', hto⟩ := is_s hto
  obtain ⟨hto8, rfl⟩ := ix_some hto
  obtain ⟨wa1, wa2, wa3, wa4⟩ := h.2.2 a' ha8
  obtain ⟨wb1, wb2, wb3, wb4⟩ := h.2.2 b' hb8
  have hN8 := h.2.1.1.2.2.1
  have hlen0 := wapp_len (S.2.2 b') (S.2.2 a')
  have e : sp_times S (nI a') (nI b') (nI to') = if 16 < (wapp (S.2.2 a') (S.2.2 b')).length then (-2, S) else (nI (wapp (S.2.2 a') (S.2.2 b')).length, (S.1, S.2.1, va_up S.2.2 to' (wapp (S.2.2 a') (S.2.2 b')))) := by simp [sp_times, ha, hb, hto]
  have L : ∀ i, i ≤ (S.2.2 b').length → ∀ I1, mfx [83, 84] [] I I1 → mwx [8] I I1 → mWd I1 8 (wapp (S.2.2 a') ((S.2.2 b').take i)) → xT G M_X9_times (xMQ G (xpi fun v I' J' => v = (sp_times S (nI a') (nI b') (nI to')).1 ∧ mIv I' (sp_times S (nI a') (nI b') (nI to')).2 ∧ mfr I J I' J')) 33 [some (.ref (G.1 77)), some (.int (nI a')), some (.int (nI b')), some (.int (nI to')), some (.int (nI i))] [] I1 J := by
    refine x_for (fun i hi IH I1 f1 x1 d1 => ?_)
    obtain ⟨b1, b2⟩ := x1.wd (w := b') (by omega) (by simp; omega) (by omega) wb1
    have hlen := wapp_len ((S.2.2 b').take i) (S.2.2 a')
    rw [List.length_take] at hlen
    refine xr_iload dX9_times_33 rfl ?_
    refine xr_aload0 dX9_times_35 rfl ?_
    refine xr_getR dX9_times_36 fk_9_32 lay_77 rfl ?_
    refine xr_iload2 dX9_times_39 rfl ?_
    refine xr_ialdv _ dX9_times_40 lay_84 (by (try simp only [k_0, k_1, k_2, k_3, k_4, k_5, k_8, k_16, k_34, k_40, k_200, k_201, k_256, k_512, nI_add, pk_mul]); first | done | rfl) (by omega) (by decide) b1 ?_
    refine xr_icmp_ge 68 dX9_times_41 (by decide) (fun hc => ?_) (fun hc => ?_)
    · have : i = (S.2.2 b').length := by have := nle hc; omega
      subst this
      rw [List.take_length] at d1
      refine xr_aload0 dX9_times_68 rfl ?_
      refine xr_getR dX9_times_69 fk_9_32 lay_77 rfl ?_
      refine xr_bip bi_8 dX9_times_72 ?_
      refine xr_ialdv 8 dX9_times_74 lay_84 (by (try simp only [k_0, k_1, k_2, k_3, k_4, k_5, k_8, k_16, k_34, k_40, k_200, k_201, k_256, k_512, nI_add, pk_mul]); first | done | rfl) (by omega) (by decide) d1.1 ?_
      refine xr_bip bi_16 dX9_times_75 ?_
      rw [show (16 : Int32) = nI 16 from rfl]
      refine xr_icmp_le 83 dX9_times_77 (by decide) (fun h16 => ?_) (fun h16 => ?_)
      rotate_left
      · have h16 : 16 < (wapp (S.2.2 a') (S.2.2 b')).length := Nat.not_le.mp (fun q => h16 ((nI_leI (by omega) (by decide)).mpr q))
        refine xr_bip bi_m2 dX9_times_80 ?_
        refine xr_iret dX9_times_82 rfl rfl ⟨by rw [e, if_pos h16], ?_, f1.fr (by decide) rfl⟩
        rw [e, if_pos h16]
        exact ⟨f1.sh h.1 (by decide), f1.mach h.2.1 (by decide) (by decide), h.2.2.keep x1 (by decide)⟩
      · have h16 : (wapp (S.2.2 a') (S.2.2 b')).length ≤ 16 := (nI_leI (by omega) (by decide)).mp h16
        have e2 := e
        rw [if_neg (by omega)] at e2
        refine xr_aload0 dX9_times_83 rfl ?_
        refine xr_iload3 dX9_times_84 rfl ?_
        refine xr_bip bi_8 dX9_times_85 ?_
        refine xr_cVv [_, _] dX9_times_87 (xcv_of cf_X9_copy ml_9_140 (by decide)) rfl lay_77 rfl rfl rfl (Nat.le_of_ble_eq_true rfl) (c9_copy (by omega) (by decide) d1 (by omega)) (fun I2 J2 hc2 => ?_)
        obtain ⟨d2, x2, f2, rfl⟩ := hc2
        refine xr_aload0 dX9_times_90 rfl ?_
        refine xr_getR dX9_times_91 fk_9_32 lay_77 rfl ?_
        refine xr_iload3 dX9_times_94 rfl ?_
        refine xr_ialdv _ dX9_times_95 lay_84 (by (try simp only [k_0, k_1, k_2, k_3, k_4, k_5, k_8, k_16, k_34, k_40, k_200, k_201, k_256, k_512, nI_add, pk_mul]); first | done | rfl) (by omega) (by decide) d2.1 ?_
        refine xr_iret dX9_times_96 rfl rfl ⟨by rw [e2], ?_, (f1.tr f2).fr (by decide) rfl⟩
        rw [e2]
        exact ⟨(f1.tr f2).sh h.1 (by decide), (f1.tr f2).mach h.2.1 (by decide) (by decide), h.2.2.set (W := [8]) ((x1.mono (by simp)).tr (x2.mono (by simp))) (by decide) d2 ⟨h16, wapp_red _ _ wa3, wapp_ok _ _ wa4 wb4⟩⟩
    · have hil := nlt hc
      have IH := IH hil
      refine xr_aload0 dX9_times_44 rfl ?_
      refine xr_bip bi_8 dX9_times_45 ?_
      refine xr_aload0 dX9_times_47 rfl ?_
      refine xr_getR dX9_times_48 fk_9_29 lay_77 rfl ?_
      refine xr_bip bi_34 dX9_times_51 ?_
      refine xr_iload2 dX9_times_53 rfl ?_
      refine xr_imul dX9_times_54 ?_
      refine xr_iload dX9_times_55 rfl ?_
      show xT _ _ _ 57 _ _ _ _
      refine xr_iadd dX9_times_57 ?_
      refine xr_ialdv _ dX9_times_58 lay_83 (by (try simp only [k_0, k_1, k_2, k_3, k_4, k_5, k_8, k_16, k_34, k_40, k_200, k_201, k_256, k_512, nI_add, pk_mul]); first | done | rfl) (by omega) (by decide) (b2 i hil) ?_
      have hok := wb4 _ (List.getElem_mem hil)
      refine xr_cVv [_, _] dX9_times_59 (xcv_of cf_X9_add ml_9_144 (by decide)) rfl lay_77 rfl rfl rfl (Nat.le_of_ble_eq_true rfl) (c9_add (by decide) d1 (by omega) (by have := hok.1; omega) (fun q hq => (wapp_ok _ _ wa4 (fun m hm => wb4 m (List.mem_of_mem_take hm))).lt hN8 hq)) (fun I2 J2 hc2 => ?_)
      obtain ⟨d2, x2, f2, rfl⟩ := hc2
      refine xr_iinc dX9_times_62 rfl ii_1 (Nat.le_of_ble_eq_true rfl) ?_
      show xT _ _ _ 65 [_, _, _, _, _] _ _ _
      refine xr_goto 33 dX9_times_65 (by decide) ?_
      rw [k_1, nI_add]
      refine IH I2 (f1.tr f2) (x1.tr x2) ?_
      rw [← wapp_snoc] at d2
      rw [List.take_succ_eq_append_getElem hil]
      exact d2
  refine xr_aload0 dX9_times_23 rfl ?_
  refine xr_bip bi_8 dX9_times_24 ?_
  refine xr_iload1 dX9_times_26 rfl ?_
  refine xr_cVv [_, _] dX9_times_27 (xcv_of cf_X9_copy ml_9_140 (by decide)) rfl lay_77 rfl rfl rfl (Nat.le_of_ble_eq_true rfl) (c9_copy (by decide) (by omega) wa1 (by omega)) (fun I1 J1 hc => ?_)
  obtain ⟨d1, x1, f1, rfl⟩ := hc
  refine xr_ic0 dX9_times_30 ?_
  refine xr_istore dX9_times_31 (Nat.le_of_ble_eq_true rfl) ?_
  show xT _ _ _ 33 [_, _, _, _, _] _ _ _
  rw [k_0]
  exact L 0 (by omega) I1 f1 x1 (by simpa [wapp] using d1)
end M08
