section M10
variable {G : xG} {I : xI} {J : xJ}
theorem c9_turn {S : xSt} (a to : Int32) (h : mIv I S) : xCon G M_X9_turn [.ref (G.1 77), .int a, .int to] I J (xpi fun v I' J' => v = (sp_turn S a to).1 ∧ mIv I' (sp_turn S a to).2 ∧ mfr I J I' J') := by
  refine x_ent (by decide) (Nat.le_of_ble_eq_true rfl) rfl ?_
  show xT _ _ _ 0 [_, _, _, _, _] _ _ _
  refine xr_iload1 dX9_turn_0 rfl ?_
  refine xr_cSi [_] dX9_turn_1 (xcs_of cf_X9_isSpot ml_9_137 (by decide)) rfl rfl (Nat.le_of_ble_eq_true rfl) (c9_isSpot _) (fun v I1 J1 hc => ?_)
  obtain ⟨rfl, rfl, rfl⟩ := hc
  refine xr_if_eq 14 dX9_turn_4 (by decide) (fun ha => ?_) (fun ha => ?_)
  · have ha := is_n ha
    refine xr_icm1 dX9_turn_14 ?_
    refine xr_iret dX9_turn_15 rfl rfl ⟨by simp [sp_turn, ha], by simpa [sp_turn, ha] using h, mfr.rf⟩
  obtain ⟨a', ha⟩ := is_s ha
  obtain ⟨ha8, rfl⟩ := ix_some ha
  refine xr_iload2 dX9_turn_7 rfl ?_
  refine xr_cSi [_] dX9_turn_8 (xcs_of cf_X9_isSpot ml_9_137 (by decide)) rfl rfl (Nat.le_of_ble_eq_true rfl) (c9_isSpot _) (fun v I1 J1 hc => ?_)
  obtain ⟨rfl, rfl, rfl⟩ := hc
  refine xr_if_ne 16 dX9_turn_11 (by decide) (fun hto => ?_) (fun hto => ?_)
  rotate_left
  · have hto := is_n hto
    refine xr_icm1 dX9_turn_14 ?_
    refine xr_iret dX9_turn_15 rfl rfl ⟨by simp [sp_turn, ha, hto], by simpa [sp_turn, ha, hto] using h, mfr.rf⟩
  obtain ⟨to', hto⟩ := is_s hto
  obtain ⟨hto8, rfl⟩ := ix_some hto
  obtain ⟨⟨w84, w83⟩, wl, wr, wo⟩ := h.2.2 a' ha8
  have hN8 := h.2.1.1.2.2.1
  generalize hwd : S.2.2 a' = W at w84 w83 wl wr wo
  have e : sp_turn S (nI a') (nI to') = if wBk S.2.1 W = false then (-6, S) else (nI (wapp [] (W.reverse.map opp)).length, (S.1, S.2.1, va_up S.2.2 to' (wapp [] (W.reverse.map opp)))) := by simp [sp_turn, ha, hto, hwd]
  have L : ∀ i, i ≤ W.length → ∀ I1 (z4 : Option Value), mfx [83, 84, 85] [] I I1 → mwx [8] I I1 → (∀ m ∈ W.drop i, mBack S.2.1 (m / 2)) → mWd I1 8 (wapp [] ((W.drop i).reverse.map opp)) → xT G M_X9_turn (xMQ G (xpi fun v I' J' => v = (sp_turn S (nI a') (nI to')).1 ∧ mIv I' (sp_turn S (nI a') (nI to')).2 ∧ mfr I J I' J')) 33 [some (.ref (G.1 77)), some (.int (nI a')), some (.int (nI to')), some (.int (nI i - 1)), z4] [] I1 J := by
    intro i
    induction i with
    | zero =>
      intro _ I1 z4 f1 x1 hbk d1
      rw [List.drop_zero] at hbk d1
      have hall : wBk S.2.1 W = true := by
        unfold wBk
        rw [List.all_eq_true]
        exact fun m hm => mB_iff.mpr (hbk m hm)
      have e2 := e
      rw [hall, if_neg (by decide)] at e2
      have hlen := wapp_len (W.reverse.map opp) []
      rw [List.length_map, List.length_reverse] at hlen
      have hlen : (wapp [] (W.reverse.map opp)).length ≤ W.length := by simpa using hlen
      refine xr_iload3 dX9_turn_33 rfl ?_
      refine xr_if_lt 92 dX9_turn_34 (by decide) (fun hc => ?_) (fun hc => ?_)
      rotate_left
      · exact absurd (by decide) hc
      refine xr_aload0 dX9_turn_92 rfl ?_
      refine xr_iload2 dX9_turn_93 rfl ?_
      refine xr_bip bi_8 dX9_turn_94 ?_
      refine xr_cVv [_, _] dX9_turn_96 (xcv_of cf_X9_copy ml_9_140 (by decide)) rfl lay_77 rfl rfl rfl (Nat.le_of_ble_eq_true rfl) (c9_copy (by omega) (by decide) d1 (by omega)) (fun I2 J2 hc2 => ?_)
      obtain ⟨d2, x2, f2, rfl⟩ := hc2
      have f12 := f1.tr (f2.mono (A' := [83, 84, 85]) (by simp) (fun a h => h))
      refine xr_aload0 dX9_turn_99 rfl ?_
      refine xr_getR dX9_turn_100 fk_9_32 lay_77 rfl ?_
      refine xr_iload2 dX9_turn_103 rfl ?_
      refine xr_ialdv _ dX9_turn_104 lay_84 (by (try simp only [k_0, k_1, k_2, k_3, k_4, k_5, k_8, k_16, k_34, k_40, k_200, k_201, k_256, k_512, nI_add, pk_mul]); first | done | rfl) (by omega) (by decide) d2.1 ?_
      refine xr_iret dX9_turn_105 rfl rfl ⟨by rw [e2], ?_, f12.fr (by decide) rfl⟩
      rw [e2]
      refine ⟨f12.sh h.1 (by decide), f12.mach h.2.1 (by decide) (by decide), h.2.2.set (W := [8]) ((x1.mono (by simp)).tr (x2.mono (by simp))) (by decide) d2 ⟨by omega, wapp_red _ _ wRed.nil, wapp_ok _ _ (fun m hm => by cases hm) (fun m hm => ?_)⟩⟩
      obtain ⟨q, hq, rfl⟩ := List.mem_map.mp hm
      have hq := List.mem_reverse.mp hq
      have hqb := hbk q hq
      exact ⟨by rw [opp_div]; exact hqb.lt, fun _ => by rw [opp_div]; exact hqb⟩
    | succ i IH =>
      intro hi I1 z4 f1 x1 hbk d1
      obtain ⟨b1, b2⟩ := x1.wd (w := a') (by omega) (by simp; omega) (by omega) ⟨w84, w83⟩
      have hm1 := wo _ (List.getElem_mem (show i < W.length by omega))
      have hm16 : W[i] < 16 := by have := hm1.1; omega
      have ei : nI (i + 1) - 1 = nI i := nI_pred i
      refine xr_iload3 dX9_turn_33 rfl ?_
      rw [ei]
      refine xr_if_lt 92 dX9_turn_34 (by decide) (fun hc => ?_) (fun hc => ?_)
      · exact absurd hc (nI_pos (by omega))
      refine xr_aload0 dX9_turn_37 rfl ?_
      refine xr_getR dX9_turn_38 fk_9_29 lay_77 rfl ?_
      refine xr_bip bi_34 dX9_turn_41 ?_
      refine xr_iload1 dX9_turn_43 rfl ?_
      refine xr_imul dX9_turn_44 ?_
      refine xr_iload3 dX9_turn_45 rfl ?_
      refine xr_iadd dX9_turn_46 ?_
      refine xr_ialdv _ dX9_turn_47 lay_83 (by (try simp only [k_0, k_1, k_2, k_3, k_4, k_5, k_8, k_16, k_34, k_40, k_200, k_201, k_256, k_512, nI_add, pk_mul]); first | done | rfl) (by omega) (by decide) (b2 i (by omega)) ?_
      show xT _ _ _ 48 _ _ _ _
      refine xr_istore dX9_turn_48 (Nat.le_of_ble_eq_true rfl) ?_
      show xT _ _ _ 50 [_, _, _, _, _] _ _ _
      refine xr_aload0 dX9_turn_50 rfl ?_
      generalize hm : W[i] = m at hm1 hm16
      have hdrop : W.drop i = m :: W.drop (i + 1) := by rw [← hm]; exact (List.drop_eq_getElem_cons (by omega))
      have J68 : xT G M_X9_turn (xMQ G (xpi fun v I' J' => v = (sp_turn S (nI a') (nI to')).1 ∧ mIv I' (sp_turn S (nI a') (nI to')).2 ∧ mfr I J I' J')) 68 [some (.ref (G.1 77)), some (.int (nI a')), some (.int (nI to')), some (.int (nI i)), some (.int (tok m))] [.int (nI (m / 2)), .ref (G.1 77)] I1 J := by
        refine xr_cVi [_] dX9_turn_68 (xcv_of cf_X9_isBack ml_9_124 (by decide)) rfl lay_77 rfl rfl rfl (Nat.le_of_ble_eq_true rfl) (c9_isBack (f1.mach h.2.1 (by decide) (by decide)) (by omega)) (fun v I2 J2 hc2 => ?_)
        obtain ⟨rfl, ⟨f, rfl⟩, rfl⟩ := hc2
        have f2 := f1.up (k := 85) f (by decide) (by decide)
        have x2 : mwx [8] I (va_up I1 85 f) := x1.tr (mwx.of (by rw [va_up_ne _ _ (by decide)]) (by rw [va_up_ne _ _ (by decide)]))
        have d2 : mWd (va_up I1 85 f) 8 (wapp [] ((W.drop (i + 1)).reverse.map opp)) := ⟨by rw [va_up_ne _ _ (by decide)]; exact d1.1, by rw [va_up_ne _ _ (by decide)]; exact d1.2⟩
        refine xr_if_ne 77 dX9_turn_71 (by decide) (fun hb => ?_) (fun hb => ?_)
        rotate_left
        · have hb := b2_0.mp hb
          refine xr_bip bi_m6 dX9_turn_74 ?_
          have hall : wBk S.2.1 W = false := by
            unfold wBk
            rw [List.all_eq_false]
            exact ⟨m, by rw [← hm]; exact List.getElem_mem _, by rw [hb]; decide⟩
          have e2 := e
          rw [if_pos hall] at e2
          refine xr_iret dX9_turn_76 rfl rfl ⟨by rw [e2], ?_, f2.fr (by decide) rfl⟩
          rw [e2]
          exact ⟨f2.sh h.1 (by decide), f2.mach h.2.1 (by decide) (by decide), h.2.2.keep x2 (by decide)⟩
        · have hb : mB S.2.1 (m / 2) = true := by
            cases hq : mB S.2.1 (m / 2) with
            | true => rfl
            | false => rw [hq] at hb; exact absurd rfl hb
          have hbb := mB_iff.mp hb
          have hlen := wapp_len ((W.drop (i + 1)).reverse.map opp) []
          rw [List.length_map, List.length_reverse, List.length_drop] at hlen
          have hlen : (wapp [] ((W.drop (i + 1)).reverse.map opp)).length ≤ 16 := by
            have : ([] : List Nat).length = 0 := rfl
            omega
          have hbk2 : wOk S.2.1 (wapp [] ((W.drop (i + 1)).reverse.map opp)) := wapp_ok _ _ (fun m hm => by cases hm) (fun m hm => by
            obtain ⟨q, hq, rfl⟩ := List.mem_map.mp hm
            have hqb := hbk q (List.mem_reverse.mp hq)
            exact ⟨by rw [opp_div]; exact hqb.lt, fun _ => by rw [opp_div]; exact hqb⟩)
          refine xr_aload0 dX9_turn_77 rfl ?_
          refine xr_bip bi_8 dX9_turn_78 ?_
          refine xr_iload dX9_turn_80 rfl ?_
          refine xr_ineg dX9_turn_82 ?_
          rw [← tok_opp]
          refine xr_cVv [_, _] dX9_turn_83 (xcv_of cf_X9_add ml_9_144 (by decide)) rfl lay_77 rfl rfl rfl (Nat.le_of_ble_eq_true rfl) (c9_add (by decide) d2 (by omega) (by have := opp_lt (m := m) (n := 8) (by omega); omega) (fun q hq => hbk2.lt hN8 hq)) (fun I3 J3 hc3 => ?_)
          obtain ⟨d3, x3, f3, rfl⟩ := hc3
          refine xr_iinc dX9_turn_86 rfl ii_m1 (Nat.le_of_ble_eq_true rfl) ?_
          show xT _ _ _ 89 [_, _, _, _, _] _ _ _
          refine xr_goto 33 dX9_turn_89 (by decide) ?_
          rw [show nI i + -1 = nI i - 1 by grind]
          refine IH (by omega) I3 _ (f2.tr (f3.mono (by simp) (fun a h => h))) (x2.tr x3) (fun q hq => ?_) ?_
          · rw [hdrop] at hq
            rcases List.mem_cons.mp hq with rfl | hq
            · exact hbb
            · exact hbk q hq
          · rw [hdrop, List.reverse_cons, List.map_append, List.map_cons, List.map_nil, wapp_snoc]
            exact d3
      refine xr_iload dX9_turn_51 rfl ?_
      have hodd := Nat.mod_two_eq_zero_or_one m
      refine xr_if_ge 64 dX9_turn_53 (by decide) (fun hge => ?_) (fun hge => ?_)
      · skip
        have hev : m % 2 = 0 := by
          rcases hodd with q | q
          · exact q
          · exfalso
            rw [le_toInt, ti_0, tok_toInt (by omega), if_neg (by omega)] at hge
            omega
        have et : tok m - 1 = nI (m / 2) := by rw [tok, if_pos hev, k_1, pk_sub (by omega), Nat.add_sub_cancel]
        refine xr_iload dX9_turn_64 rfl ?_
        refine xr_ic1 dX9_turn_66 ?_
        refine xr_isub dX9_turn_67 ?_
        rw [et]
        exact J68
      · skip
        have hod : m % 2 = 1 := by
          rcases hodd with q | q
          · exfalso
            apply hge
            rw [le_toInt, ti_0, tok_toInt (by omega), if_pos q]
            omega
          · exact q
        have et : -tok m - 1 = nI (m / 2) := by rw [tok, if_neg (by omega), ← nI_1]; grind
        refine xr_iload dX9_turn_56 rfl ?_
        refine xr_ineg dX9_turn_58 ?_
        refine xr_ic1 dX9_turn_59 ?_
        refine xr_isub dX9_turn_60 ?_
        refine xr_goto 68 dX9_turn_61 (by decide) ?_
        rw [et]
        exact J68
  refine xr_aload0 dX9_turn_16 rfl ?_
  refine xr_getR dX9_turn_17 fk_9_32 lay_77 rfl ?_
  refine xr_bip bi_8 dX9_turn_20 ?_
  refine xr_ic0 dX9_turn_22 ?_
  refine xr_iast 8 dX9_turn_23 lay_84 rfl (by decide) (by decide) ?_
  generalize hI1 : va_up I 84 (upd (I 84) 8 0) = I1
  have f1 : mfx [83, 84, 85] [] I I1 := by rw [← hI1]; exact mfx.rf.up _ (by decide) (by decide)
  have x1 : mwx [8] I I1 := fun v hv hvw => by
    have hvw' : v ≠ 8 := fun q => hvw (by rw [q]; exact List.mem_singleton.mpr rfl)
    rw [← hI1, up_same, upd_ne _ _ hvw', va_up_ne _ _ (by decide)]
    exact ⟨rfl, fun _ _ => rfl⟩
  refine xr_aload0 dX9_turn_24 rfl ?_
  refine xr_getR dX9_turn_25 fk_9_32 lay_77 rfl ?_
  refine xr_iload1 dX9_turn_28 rfl ?_
  refine xr_ialdv _ dX9_turn_29 lay_84 (by (try simp only [k_0, k_1, k_2, k_3, k_4, k_5, k_8, k_16, k_34, k_40, k_200, k_201, k_256, k_512, nI_add, pk_mul]); first | done | rfl) (by omega) (by decide) (show _ = nI W.length by rw [(x1 a' (by omega) (by simp; omega)).1]; exact w84) ?_
  refine xr_ic1 dX9_turn_30 ?_
  refine xr_isub dX9_turn_31 ?_
  refine xr_istore3 dX9_turn_32 (Nat.le_of_ble_eq_true rfl) ?_
  show xT _ _ _ 33 [_, _, _, _, _] _ _ _
  refine L W.length (Nat.le_refl _) I1 _ f1 x1 (fun m hm => by rw [List.drop_length] at hm; cases hm) ?_
  rw [List.drop_length]
  exact ⟨by rw [← hI1, up_same, upd_same]; rfl, fun i hi => absurd hi (Nat.not_lt_zero _)⟩
end M10
