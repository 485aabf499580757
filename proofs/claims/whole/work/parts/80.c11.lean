section C11
variable {G : xG} {I : xI} {J : xJ}
theorem isW.ne {w k : Nat} (hw : isW w) (hk : ∀ fs, lay k ≠ .inl (7, fs)) : k ≠ w := fun e => hk _ (by rw [e]; exact hw)
theorem isW.m {w : Nat} (hw : isW w) : 21 ≠ w ∧ 22 ≠ w ∧ 23 ≠ w ∧ 24 ≠ w ∧ 25 ≠ w ∧ 26 ≠ w := ⟨hw.ne (fun fs h => by rw [lay_21] at h; cases h), hw.ne (fun fs h => by rw [lay_22] at h; cases h), hw.ne (fun fs h => by rw [lay_23] at h; cases h), hw.ne (fun fs h => by rw [lay_24] at h; cases h), hw.ne (fun fs h => by rw [lay_25] at h; cases h), hw.ne (fun fs h => by rw [lay_26] at h; cases h)⟩
theorem cfx.mcw {w : Nat} {I I' : xI} {J J' : xJ} {M : xMac} (f : cfx [w] I J I' J') (hw : isW w) (h : cMc I M) : cMc I' M := h.cg (fun a h1 h2 => (f a (fun q => by
  have := List.mem_singleton.mp q
  obtain ⟨a1, a2, a3, a4, a5, a6⟩ := hw.m
  omega)).1)
theorem c7_descend {M : xMac} (hm : cMc I M) (hwh : mWhole M) {w : Nat} (hw : isW w) {ws : List Nat} (hs : cWd I J w ws) (hl : ws.length ≤ 16) (hok : wOk M ws) {x : Nat} (hx : x < mK M) : xCon G M_X7_descend [.ref (G.1 w), .ref (G.1 21), .int (nI x)] I J (xpi fun v I' J' => v = nI (wout M ws x) ∧ cWd I' J' w (wpart M ws x) ∧ cfx [w] I J I' J') := by
  have hM := hm.1.1
  have hK4 := hM.2.1
  have h16 : w16 ws := ⟨hl, wOk16 hM hok⟩
  have L : ∀ i, i ≤ ws.length → ∀ I1 J1 (z8 : Option Value), cfx [w] I J I1 J1 → cWd I1 J1 w (wpart M (ws.take i) x) → xT G M_X7_descend (xMQ G (xpi fun v I' J' => v = nI (wout M ws x) ∧ cWd I' J' w (wpart M ws x) ∧ cfx [w] I J I' J')) 21 [some (.ref (G.1 w)), some (.ref (G.1 21)), some (.int (nI x)), some (.long (lN (p4 ws))), none, some (.int (nI ws.length)), some (.int (nI (wout M (ws.take i) x))), some (.int (nI i)), z8] [] I1 J1 := by
    refine x_for (fun i hi IH I1 J1 z8 f1 d1 => ?_)
    have hok1 : wOk M (ws.take i) := fun m hm => hok m (List.mem_of_mem_take hm)
    have ho := wout_lt hM hwh hok1 hx
    obtain ⟨g1, g2, g3⟩ := wpart_good hM hwh hok1 hx
    have hti : (ws.take i).length = i := by rw [List.length_take]; omega
    refine xr_iload dX7_descend_21 rfl ?_
    refine xr_iload dX7_descend_23 rfl ?_
    refine xr_icmp_ge 83 dX7_descend_25 (by decide) (fun hc => ?_) (fun hc => ?_)
    · have : i = ws.length := by have := nle hc; omega
      subst this
      rw [List.take_length] at d1 ⊢
      refine xr_iload dX7_descend_83 rfl ?_
      refine xr_iret dX7_descend_85 rfl rfl ⟨rfl, d1, f1⟩
    have hil := nlt hc
    have IH := IH hil
    have hmi := hok _ (List.getElem_mem hil)
    have hm16 := h16.2 _ (List.getElem_mem hil)
    have m1 := f1.mcw hw hm
    obtain ⟨v24, v25⟩ := m1.2.2.2.2 _ _ hmi ho
    have e1 : wout M (ws.take (i + 1)) x = mw M ws[i] (wout M (ws.take i) x) := by rw [List.take_succ_eq_append_getElem hil, wout_snoc]
    have e2 : wpart M (ws.take (i + 1)) x = wpushO (wpart M (ws.take i) x) (mg M ws[i] (wout M (ws.take i) x)) := by rw [List.take_succ_eq_append_getElem hil, wpart_snoc]
    rw [e1, e2] at IH
    generalize hoo : wout M (ws.take i) x = o at *
    have hlen : (wpart M (ws.take i) x).length ≤ i := by omega
    generalize hpp : wpart M (ws.take i) x = p at *
    refine xr_lload3 dX7_descend_28 rfl ?_
    refine xr_ic4 dX7_descend_29 ?_
    refine xr_iload dX7_descend_30 rfl ?_
    refine xr_imul dX7_descend_32 ?_
    refine xr_lushr dX7_descend_33 ?_
    refine xr_l2i dX7_descend_34 ?_
    refine xr_bip bi_15 dX7_descend_35 ?_
    refine xr_iand dX7_descend_37 ?_
    show xT _ _ _ 38 _ _ _ _
    refine xr_ic4 dX7_descend_38 ?_
    refine xr_imul dX7_descend_39 ?_
    refine xr_iload dX7_descend_40 rfl ?_
    refine xr_iadd dX7_descend_42 ?_
    rw [i32_and, k_4, pk_mul 4 i, key_get h16.2 h16.1 hil, pk_mul, nI_add, Nat.mul_comm]
    refine xr_istore dX7_descend_43 (Nat.le_of_ble_eq_true rfl) ?_
    show xT _ _ _ 45 [_, _, _, _, _, _, _, _, _] _ _ _
    refine xr_aload1 dX7_descend_45 rfl ?_
    refine xr_getR dX7_descend_46 fk_7_22 lay_21 rfl ?_
    refine xr_iload dX7_descend_49 rfl ?_
    refine xr_ialdv (4 * ws[i] + o) dX7_descend_51 lay_24 rfl (by omega) (by decide) v24 ?_
    refine xr_istore dX7_descend_52 (Nat.le_of_ble_eq_true rfl) ?_
    show xT _ _ _ 54 [_, _, _, _, _, _, _, _, _] _ _ _
    refine xr_aload1 dX7_descend_54 rfl ?_
    refine xr_getR dX7_descend_55 fk_7_28 lay_21 rfl ?_
    refine xr_iload dX7_descend_58 rfl ?_
    refine xr_ialdv (4 * ws[i] + o) dX7_descend_60 lay_25 rfl (by omega) (by decide) v25 ?_
    refine xr_icm1 dX7_descend_61 ?_
    refine xr_icmp_eq 77 dX7_descend_62 (by decide) (fun hg => ?_) (fun hg => ?_)
    · have hno : mg M ws[i] o = none := by
        cases hq : mg M ws[i] o with
        | none => rfl
        | some g =>
          rw [hq] at hg
          have h1 := mg_ok hM hwh hmi ho hq
          have h2 := hM.2.2.1
          have := congrArg Int32.toInt hg
          rw [show oI (some g) = nI g from rfl, nI_toInt (by have := h1.1; omega), ti_m1] at this
          omega
      rw [hno] at IH
      refine xr_iinc dX7_descend_77 rfl ii_1 (Nat.le_of_ble_eq_true rfl) ?_
      show xT _ _ _ 80 [_, _, _, _, _, _, _, _, _] _ _ _
      refine xr_goto 21 dX7_descend_80 (by decide) ?_
      rw [k_1, nI_add]
      exact IH I1 J1 _ f1 d1
    cases hq : mg M ws[i] o with
    | none => rw [hq] at hg; exact absurd rfl hg
    | some g =>
      have h1 := mg_ok hM hwh hmi ho hq
      have h2 := hM.2.2.1
      have hg16 : g < 16 := by have := h1.1; omega
      rw [hq] at IH v25
      refine xr_aload0 dX7_descend_65 rfl ?_
      refine xr_aload1 dX7_descend_66 rfl ?_
      refine xr_getR dX7_descend_67 fk_7_28 lay_21 rfl ?_
      refine xr_iload dX7_descend_70 rfl ?_
      refine xr_ialdv (4 * ws[i] + o) dX7_descend_72 lay_25 rfl (by omega) (by decide) v25 ?_
      refine xr_cVi [_] dX7_descend_73 (xcv_of cf_X7_push ml_7_31 (by decide)) rfl hw rfl rfl rfl (Nat.le_of_ble_eq_true rfl) (c7_push hw d1 ⟨by omega, wOk16 hM g1⟩ hg16) (fun v I2 J2 hc2 => ?_)
      have hpl := wpush_len p g
      rcases hc2 with ⟨hbad, -⟩ | ⟨-, rfl, d2, f2⟩
      · omega
      refine xr_pop dX7_descend_76 rfl ?_
      refine xr_iinc dX7_descend_77 rfl ii_1 (Nat.le_of_ble_eq_true rfl) ?_
      show xT _ _ _ 80 [_, _, _, _, _, _, _, _, _] _ _ _
      refine xr_goto 21 dX7_descend_80 (by decide) ?_
      rw [k_1, nI_add]
      exact IH I2 J2 _ (f1.tr f2) d2
  refine x_ent (by decide) (Nat.le_of_ble_eq_true rfl) rfl ?_
  show xT _ _ _ 0 [_, _, _, _, _, _, _, _, _] _ _ _
  refine xr_aload0 dX7_descend_0 rfl ?_
  refine xr_getJv dX7_descend_1 fk_7_9 hw rfl hs.1 ?_
  refine xr_lstore3 dX7_descend_4 (Nat.le_of_ble_eq_true rfl) ?_
  show xT _ _ _ 5 [_, _, _, _, _, _, _, _, _] _ _ _
  refine xr_aload0 dX7_descend_5 rfl ?_
  refine xr_getIv dX7_descend_6 fk_7_15 hw rfl hs.2 ?_
  refine xr_istore dX7_descend_9 (Nat.le_of_ble_eq_true rfl) ?_
  show xT _ _ _ 11 [_, _, _, _, _, _, _, _, _] _ _ _
  refine xr_iload2 dX7_descend_11 rfl ?_
  refine xr_istore dX7_descend_12 (Nat.le_of_ble_eq_true rfl) ?_
  show xT _ _ _ 14 [_, _, _, _, _, _, _, _, _] _ _ _
  show xT _ _ _ 14 _ _ _ _
  refine xr_aload0 dX7_descend_14 rfl ?_
  refine xr_cVv [] dX7_descend_15 (xcv_of cf_X7_empty ml_7_19 (by decide)) rfl hw rfl rfl rfl (Nat.le_of_ble_eq_true rfl) (c7_empty hw) (fun I1 J1 hc => ?_)
  obtain ⟨d1, f1⟩ := hc
  refine xr_ic0 dX7_descend_18 ?_
  refine xr_istore dX7_descend_19 (Nat.le_of_ble_eq_true rfl) ?_
  show xT _ _ _ 21 [_, _, _, _, _, _, _, _, _] _ _ _
  exact L 0 (Nat.zero_le _) I1 J1 _ f1 d1
theorem c8_tokenOf {m : Nat} (hm : m < 16) : xCon G M_X8_tokenOf [.int (nI m)] I J (xpi fun v I' J' => v = tok m ∧ I = I' ∧ J = J') := by
  refine x_ent (by decide) (Nat.le_of_ble_eq_true rfl) rfl ?_
  show xT _ _ _ 0 [_, _] _ _ _
  refine xr_iload0 dX8_tokenOf_0 rfl ?_
  refine xr_ic1 dX8_tokenOf_1 ?_
  refine xr_ishr dX8_tokenOf_2 ?_
  refine xr_ic1 dX8_tokenOf_3 ?_
  refine xr_iadd dX8_tokenOf_4 ?_
  rw [shr1 hm, k_1, nI_add]
  refine xr_istore1 dX8_tokenOf_5 (Nat.le_of_ble_eq_true rfl) ?_
  show xT _ _ _ 6 [_, _] _ _ _
  refine xr_iload0 dX8_tokenOf_6 rfl ?_
  refine xr_ic1 dX8_tokenOf_7 ?_
  refine xr_iand dX8_tokenOf_8 ?_
  rw [and1 hm]
  refine xr_if_ne 16 dX8_tokenOf_9 (by decide) (fun h1 => ?_) (fun h1 => ?_)
  · have h1 : m % 2 ≠ 0 := fun q => h1 (by rw [q]; rfl)
    refine xr_iload1 dX8_tokenOf_16 rfl ?_
    refine xr_ineg dX8_tokenOf_17 ?_
    refine xr_iret dX8_tokenOf_18 rfl rfl ⟨by unfold tok; rw [if_neg h1], rfl, rfl⟩
  have h1 : m % 2 = 0 := (nI_eq (b := 0) (by omega) (by decide)).mp h1
  refine xr_iload1 dX8_tokenOf_12 rfl ?_
  refine xr_goto 18 dX8_tokenOf_13 (by decide) ?_
  refine xr_iret dX8_tokenOf_18 rfl rfl ⟨by unfold tok; rw [if_pos h1], rfl, rfl⟩
theorem c8_markOf {m : Nat} (hm : m < 16) : xCon G M_X8_markOf [.int (tok m)] I J (xpi fun v I' J' => v = nI m ∧ I = I' ∧ J = J') := by
  have hp := tok_pos (a := m) (by omega)
  refine x_ent (by decide) (Nat.le_of_ble_eq_true rfl) rfl ?_
  show xT _ _ _ 0 [_] _ _ _
  refine xr_iload0 dX8_markOf_0 rfl ?_
  refine xr_if_le 12 dX8_markOf_1 (by decide) (fun h0 => ?_) (fun h0 => ?_)
  · have h1 : ¬ m % 2 = 0 := fun q => by
      have := hp.mpr q
      rw [lt_toInt] at this
      rw [le_toInt] at h0
      omega
    refine xr_ic2 dX8_markOf_12 ?_
    refine xr_iload0 dX8_markOf_13 rfl ?_
    refine xr_ineg dX8_markOf_14 ?_
    refine xr_ic1 dX8_markOf_15 ?_
    refine xr_isub dX8_markOf_16 ?_
    refine xr_imul dX8_markOf_17 ?_
    refine xr_ic1 dX8_markOf_18 ?_
    refine xr_iadd dX8_markOf_19 ?_
    show xT _ _ _ 20 _ _ _ _
    refine xr_iret dX8_markOf_20 rfl rfl ⟨?_, rfl, rfl⟩
    unfold tok
    rw [if_neg h1, Int32.neg_neg, k_1, pk_sub (by omega), k_2, pk_mul, nI_add]
    congr 1
    omega
  have h1 : m % 2 = 0 := hp.mp (by rw [lt_toInt]; rw [le_toInt] at h0; omega)
  refine xr_ic2 dX8_markOf_4 ?_
  refine xr_iload0 dX8_markOf_5 rfl ?_
  refine xr_ic1 dX8_markOf_6 ?_
  refine xr_isub dX8_markOf_7 ?_
  refine xr_imul dX8_markOf_8 ?_
  refine xr_goto 20 dX8_markOf_9 (by decide) ?_
  refine xr_iret dX8_markOf_20 rfl rfl ⟨?_, rfl, rfl⟩
  unfold tok
  rw [if_pos h1, k_1, pk_sub (by omega), k_2, pk_mul]
  congr 1
  omega
theorem c8_bring {ws : List Nat} (hs : cWd I J 20 ws) {to : Nat} (hto : to < 8) : xCon G M_X8_bring [.ref (G.1 0), .ref (G.1 20), .int (nI to)] I J (xpi fun v I' J' => v = nI ws.length ∧ cWd I' J' (12 + to) ws ∧ cfx [12 + to] I J I' J') := by
  have hW := isW_s to hto
  refine x_ent (by decide) (Nat.le_of_ble_eq_true rfl) rfl ?_
  show xT _ _ _ 0 [_, _, _] _ _ _
  refine xr_aload0 dX8_bring_0 rfl ?_
  refine xr_getR dX8_bring_1 fk_8_17 lay_0 rfl ?_
  refine xr_iload2 dX8_bring_4 rfl ?_
  refine xr_aald4 to dX8_bring_5 lay_2 rfl hto (by decide) ?_
  refine xr_aload1 dX8_bring_6 rfl ?_
  refine xr_cVv [_] dX8_bring_7 (xcv_of cf_X7_copy ml_8_182 (by decide)) rfl hW rfl rfl rfl (Nat.le_of_ble_eq_true rfl) (c7_copy hW (show isW 20 from rfl) hs) (fun I1 J1 hc => ?_)
  obtain ⟨d1, f1⟩ := hc
  have d20 := f1.wd hs (by simp; omega)
  refine xr_aload1 dX8_bring_10 rfl ?_
  refine xr_getIv dX8_bring_11 fk_8_163 lay_20 rfl d20.2 ?_
  refine xr_iret dX8_bring_14 rfl rfl ⟨rfl, d1, f1⟩
theorem c8_join {w1 w2 : Nat} (h1 : isW w1) (h2 : isW w2) (hn : w1 ≠ 20) {a b : List Nat} (ha : cWd I J w1 a) (hb : cWd I J w2 b) (a16 : w16 a) (b16 : w16 b) (br : wRed b) {to : Nat} (hto : to < 8) : xCon G M_X8_join [.ref (G.1 0), .ref (G.1 w1), .ref (G.1 w2), .int (nI to)] I J (xpi fun v I' J' => (16 < (wapp a b).length ∧ v = -2 ∧ cfx [20] I J I' J') ∨ ((wapp a b).length ≤ 16 ∧ v = nI (wapp a b).length ∧ cWd I' J' (12 + to) (wapp a b) ∧ cfx [20, 12 + to] I J I' J')) := by
  have hbl := b16.1
  have L : ∀ i, i ≤ b.length → ∀ I1 J1, cfx [20] I J I1 J1 → cWd I1 J1 20 (wapp a (b.take i)) → w16 (wapp a (b.take i)) → xT G M_X8_join (xMQ G (xpi fun v I' J' => (16 < (wapp a b).length ∧ v = -2 ∧ cfx [20] I J I' J') ∨ ((wapp a b).length ≤ 16 ∧ v = nI (wapp a b).length ∧ cWd I' J' (12 + to) (wapp a b) ∧ cfx [20, 12 + to] I J I' J'))) 23 [some (.ref (G.1 0)), some (.ref (G.1 w1)), some (.ref (G.1 w2)), some (.int (nI to)), some (.long (lN (p4 b))), none, some (.int (nI b.length)), some (.int (nI i))] [] I1 J1 := by
    refine x_for (fun i hi IH I1 J1 f1 d1 g1 => ?_)
    refine xr_iload dX8_join_23 rfl ?_
    refine xr_iload dX8_join_25 rfl ?_
    refine xr_icmp_ge 60 dX8_join_27 (by decide) (fun hc => ?_) (fun hc => ?_)
    · have : i = b.length := by have := nle hc; omega
      subst this
      rw [List.take_length] at d1 g1
      refine xr_aload0 dX8_join_60 rfl ?_
      refine xr_aload0 dX8_join_61 rfl ?_
      refine xr_getR dX8_join_62 fk_8_26 lay_0 rfl ?_
      refine xr_iload3 dX8_join_65 rfl ?_
      refine xr_cVi [_, _] dX8_join_66 (xcv_of cf_X8_bring ml_8_175 (by decide)) rfl lay_0 rfl rfl rfl (Nat.le_of_ble_eq_true rfl) (c8_bring d1 hto) (fun v I2 J2 hc2 => ?_)
      obtain ⟨rfl, d2, f2⟩ := hc2
      refine xr_iret dX8_join_69 rfl rfl (Or.inr ⟨g1.1, rfl, d2, (f1.mono (by simp)).tr (f2.mono (by simp))⟩)
    have hil := nlt hc
    have IH := IH hil
    have hm16 := b16.2 _ (List.getElem_mem hil)
    refine xr_aload0 dX8_join_30 rfl ?_
    refine xr_getR dX8_join_31 fk_8_26 lay_0 rfl ?_
    refine xr_lload dX8_join_34 rfl ?_
    refine xr_ic4 dX8_join_36 ?_
    refine xr_iload dX8_join_37 rfl ?_
    refine xr_imul dX8_join_39 ?_
    refine xr_lushr dX8_join_40 ?_
    refine xr_l2i dX8_join_41 ?_
    show xT _ _ _ 42 _ _ _ _
    refine xr_bip bi_15 dX8_join_42 ?_
    refine xr_iand dX8_join_44 ?_
    rw [i32_and, k_4, pk_mul, key_get b16.2 b16.1 hil]
    refine xr_cVi [_] dX8_join_45 (xcv_of cf_X7_push ml_8_156 (by decide)) rfl lay_20 rfl rfl rfl (Nat.le_of_ble_eq_true rfl) (c7_push (show isW 20 from rfl) d1 g1 hm16) (fun v I2 J2 hc2 => ?_)
    have e : wapp a (b.take (i + 1)) = wpush (wapp a (b.take i)) b[i] := by rw [List.take_succ_eq_append_getElem hil, wapp_snoc]
    rcases hc2 with ⟨hbad, rfl, rfl, rfl⟩ | ⟨hgood, rfl, d2, f2⟩
    · skip
      refine xr_if_ne 54 dX8_join_48 (by decide) (fun hz => ?_) (fun hz => ?_)
      · exact absurd rfl hz
      refine xr_bip bi_m2 dX8_join_51 ?_
      refine xr_iret dX8_join_53 rfl rfl (Or.inl ⟨wapp_full br hil hbad g1.1, rfl, f1⟩)
    · skip
      refine xr_if_ne 54 dX8_join_48 (by decide) (fun hz => ?_) (fun hz => ?_)
      rotate_left
      · exact absurd hz (by decide)
      refine xr_iinc dX8_join_54 rfl ii_1 (Nat.le_of_ble_eq_true rfl) ?_
      show xT _ _ _ 57 [_, _, _, _, _, _, _, _] _ _ _
      refine xr_goto 23 dX8_join_57 (by decide) ?_
      rw [k_1, nI_add]
      rw [e] at IH
      exact IH I2 J2 (f1.tr f2) d2 ⟨hgood, wpush_16 g1.2 hm16⟩
  refine x_ent (by decide) (Nat.le_of_ble_eq_true rfl) rfl ?_
  show xT _ _ _ 0 [_, _, _, _, _, _, _, _] _ _ _
  refine xr_aload2 dX8_join_0 rfl ?_
  refine xr_getJv dX8_join_1 fk_8_297 h2 rfl hb.1 ?_
  refine xr_lstore dX8_join_4 (Nat.le_of_ble_eq_true rfl) ?_
  show xT _ _ _ 6 [_, _, _, _, _, _, _, _] _ _ _
  refine xr_aload2 dX8_join_6 rfl ?_
  refine xr_getIv dX8_join_7 fk_8_163 h2 rfl hb.2 ?_
  refine xr_istore dX8_join_10 (Nat.le_of_ble_eq_true rfl) ?_
  show xT _ _ _ 12 [_, _, _, _, _, _, _, _] _ _ _
  refine xr_aload0 dX8_join_12 rfl ?_
  refine xr_getR dX8_join_13 fk_8_26 lay_0 rfl ?_
  show xT _ _ _ 16 _ _ _ _
  refine xr_aload1 dX8_join_16 rfl ?_
  refine xr_cVv [_] dX8_join_17 (xcv_of cf_X7_copy ml_8_182 (by decide)) rfl lay_20 rfl rfl rfl (Nat.le_of_ble_eq_true rfl) (c7_copy (show isW 20 from rfl) h1 ha) (fun I1 J1 hc => ?_)
  obtain ⟨d1, f1⟩ := hc
  refine xr_ic0 dX8_join_20 ?_
  refine xr_istore dX8_join_21 (Nat.le_of_ble_eq_true rfl) ?_
  show xT _ _ _ 23 [_, _, _, _, _, _, _, _] _ _ _
  exact L 0 (Nat.zero_le _) I1 J1 f1 d1 a16
end C11
