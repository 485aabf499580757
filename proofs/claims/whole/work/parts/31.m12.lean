section M12
variable {G : xG} {I : xI} {J : xJ}
theorem wact_ok {M : xMac} (hM : mOk M) (hwh : mWhole M) : ∀ (w : List Nat) (r : List Nat), wOk M w → rOk M r → rOk M (wact M w r)
  | [], r, _, h => h
  | m :: w, r, hw, h => wact_ok hM hwh w _ (fun q hq => hw q (List.mem_cons_of_mem _ hq)) (mact_ok hM hwh r (some m) (fun q hq => by cases hq; exact hw m List.mem_cons_self) h)
theorem wact_len {M : xMac} : ∀ (w : List Nat) (r : List Nat), (wact M w r).length = r.length
  | [], r => rfl
  | m :: w, r => (wact_len w _).trans (mact_len M r _)
theorem wact_snoc (M : xMac) (w : List Nat) (m : Nat) (r : List Nat) : wact M (w ++ [m]) r = mact M (some m) (wact M w r) := by simp [wact, List.foldl_append]
theorem c9_act {S : xSt} (spot row : Int32) (h : mIv I S) : xCon G M_X9_act [.ref (G.1 77), .int spot, .int row] I J (xpi fun v I' J' => v = sp_act S spot row ∧ mIv I' S ∧ mfr I J I' J') := by
  refine x_ent (by decide) (Nat.le_of_ble_eq_true rfl) rfl ?_
  show xT _ _ _ 0 [_, _, _, _] _ _ _
  refine xr_iload1 dX9_act_0 rfl ?_
  refine xr_cSi [_] dX9_act_1 (xcs_of cf_X9_isSpot ml_9_137 (by decide)) rfl rfl (Nat.le_of_ble_eq_true rfl) (c9_isSpot _) (fun v I1 J1 hc => ?_)
  obtain ⟨rfl, rfl, rfl⟩ := hc
  refine xr_if_eq 17 dX9_act_4 (by decide) (fun hs => ?_) (fun hs => ?_)
  · have hs := is_n hs
    refine xr_icm1 dX9_act_17 ?_
    refine xr_iret dX9_act_18 rfl rfl ⟨by simp [sp_act, hs], h, mfr.rf⟩
  obtain ⟨w, hs⟩ := is_s hs
  obtain ⟨hw8, rfl⟩ := ix_some hs
  refine xr_aload0 dX9_act_7 rfl ?_
  refine xr_iload2 dX9_act_8 rfl ?_
  refine xr_bip bi_10 dX9_act_9 ?_
  refine xr_cVi [_, _] dX9_act_11 (xcv_of cf_X9_takeRow ml_9_159 (by decide)) rfl lay_77 rfl rfl rfl (Nat.le_of_ble_eq_true rfl) (c9_takeRow h.2.1 row) (fun v I1 J1 hc => ?_)
  obtain ⟨rfl, hrw, f1, rfl⟩ := hc
  have hI1 := f1.iv h (by decide) (by decide)
  refine xr_if_ne 19 dX9_act_14 (by decide) (fun hr => ?_) (fun hr => ?_)
  rotate_left
  · have hr := is_n hr
    refine xr_icm1 dX9_act_17 ?_
    refine xr_iret dX9_act_18 rfl rfl ⟨by simp [sp_act, hs, hr], hI1, f1.fr (by decide) rfl⟩
  obtain ⟨r, hr⟩ := is_s hr
  obtain ⟨rl, rk, rfl⟩ := rowOf_some hr
  have hrw := hrw r hr
  refine xr_aload0 dX9_act_19 rfl ?_
  refine xr_cVi [] dX9_act_20 (xcv_of cf_X9_isWhole ml_9_133 (by decide)) rfl lay_77 rfl rfl rfl (Nat.le_of_ble_eq_true rfl) (c9_isWhole hI1.2.1) (fun v I2 J2 hc => ?_)
  obtain ⟨rfl, rfl, rfl⟩ := hc
  refine xr_if_ne 29 dX9_act_23 (by decide) (fun hwh => ?_) (fun hwh => ?_)
  rotate_left
  · have hwh := b2_0.mp hwh
    refine xr_bip bi_m5 dX9_act_26 ?_
    refine xr_iret dX9_act_28 rfl rfl ⟨by simp [sp_act, hs, hr, hwh], hI1, f1.fr (by decide) rfl⟩
  have hwh : mW S.2.1 = true := by
    cases hq : mW S.2.1 with
    | true => rfl
    | false => rw [hq] at hwh; exact absurd rfl hwh
  have hwhole := mW_iff.mp hwh
  obtain ⟨⟨w84, w83⟩, wl, wr, wo⟩ := h.2.2 w hw8
  have hK4 := h.2.1.1.2.1
  have e : sp_act S (nI w) (nI (rowNum r)) = nI (rowNum (wact S.2.1 (S.2.2 w) r)) := by simp [sp_act, hs, hr, hwh]
  have L : ∀ i, i ≤ (S.2.2 w).length → ∀ I2, mfx [88] [13, 14, 16] I I2 → mRw I2 (wact S.2.1 ((S.2.2 w).take i) r) → xT G M_X9_act (xMQ G (xpi fun v I' J' => v = sp_act S (nI w) (nI (rowNum r)) ∧ mIv I' S ∧ mfr I J I' J')) 31 [some (.ref (G.1 77)), some (.int (nI w)), some (.int (nI (rowNum r))), some (.int (nI i))] [] I2 J := by
    refine x_for (fun i hi IH I2 f2 r2 => ?_)
    have hok2 : wOk S.2.1 ((S.2.2 w).take i) := fun m hm => wo m (List.mem_of_mem_take hm)
    have hrk2 := wact_ok h.2.1.1 hwhole _ r hok2 rk
    have hl2 := wact_len (M := S.2.1) ((S.2.2 w).take i) r
    refine xr_iload3 dX9_act_31 rfl ?_
    refine xr_aload0 dX9_act_32 rfl ?_
    refine xr_getR dX9_act_33 fk_9_32 lay_77 rfl ?_
    refine xr_iload1 dX9_act_36 rfl ?_
    refine xr_ialdv _ dX9_act_37 lay_84 (by (try simp only [k_0, k_1, k_2, k_3, k_4, k_5, k_8, k_16, k_34, k_40, k_200, k_201, k_256, k_512, nI_add, pk_mul]); first | done | rfl) (by omega) (by decide) (show _ = nI (S.2.2 w).length by rw [f2.1 84 (by decide) (by decide)]; exact w84) ?_
    refine xr_icmp_ge 62 dX9_act_38 (by decide) (fun hc => ?_) (fun hc => ?_)
    · have : i = (S.2.2 w).length := by have := nle hc; omega
      subst this
      rw [List.take_length] at r2 hrk2 hl2
      refine xr_aload0 dX9_act_62 rfl ?_
      refine xr_cVi [] dX9_act_63 (xcv_of cf_X9_rowNumber ml_9_167 (by decide)) rfl lay_77 rfl rfl rfl (Nat.le_of_ble_eq_true rfl) (c9_rowNumber r2 (by omega) (fun x hx => by have := hrk2 x hx; omega)) (fun v I3 J3 hc3 => ?_)
      obtain ⟨rfl, rfl, rfl⟩ := hc3
      refine xr_iret dX9_act_66 rfl rfl ⟨by rw [e], f2.iv h (by decide) (by decide), f2.fr (by decide) rfl⟩
    · have hil := nlt hc
      have IH := IH hil
      refine xr_aload0 dX9_act_41 rfl ?_
      refine xr_aload0 dX9_act_42 rfl ?_
      refine xr_getR dX9_act_43 fk_9_29 lay_77 rfl ?_
      refine xr_bip bi_34 dX9_act_46 ?_
      refine xr_iload1 dX9_act_48 rfl ?_
      refine xr_imul dX9_act_49 ?_
      refine xr_iload3 dX9_act_50 rfl ?_
      refine xr_iadd dX9_act_51 ?_
      show xT _ _ _ 52 _ _ _ _
      refine xr_ialdv _ dX9_act_52 lay_83 (by (try simp only [k_0, k_1, k_2, k_3, k_4, k_5, k_8, k_16, k_34, k_40, k_200, k_201, k_256, k_512, nI_add, pk_mul]); first | done | rfl) (by omega) (by decide) (show _ = tok (S.2.2 w)[i] by rw [f2.1 83 (by decide) (by decide)]; exact w83 i hil) ?_
      refine xr_cVv [_] dX9_act_53 (xcv_of cf_X9_rewrite ml_9_163 (by decide)) rfl lay_77 rfl rfl rfl (Nat.le_of_ble_eq_true rfl) (c9_rewrite (f2.mach h.2.1 (by decide) (by decide)) hwhole (wo _ (List.getElem_mem hil)) r2 (by omega) hrk2) (fun I3 J3 hc3 => ?_)
      obtain ⟨r3, f3, rfl⟩ := hc3
      refine xr_iinc dX9_act_56 rfl ii_1 (Nat.le_of_ble_eq_true rfl) ?_
      show xT _ _ _ 59 [_, _, _, _] _ _ _
      refine xr_goto 31 dX9_act_59 (by decide) ?_
      rw [k_1, nI_add]
      refine IH I3 (f2.tr (f3.mono (fun a h => h) (by simp))) ?_
      rw [List.take_succ_eq_append_getElem hil, wact_snoc]
      exact r3
  refine xr_ic0 dX9_act_29 ?_
  refine xr_istore3 dX9_act_30 (Nat.le_of_ble_eq_true rfl) ?_
  show xT _ _ _ 31 [_, _, _, _] _ _ _
  exact L 0 (by omega) I1 (f1.mono (fun a h => h) (by simp)) (by simpa [wact] using hrw)
theorem wpart_good {M : xMac} (hM : mOk M) (hwh : mWhole M) {ws : List Nat} {x : Nat} (hw : wOk M ws) (hx : x < mK M) : wOk M (wpart M ws x) ∧ wRed (wpart M ws x) ∧ (wpart M ws x).length ≤ ws.length := by
  obtain ⟨-, a2, a3, a4⟩ := wpart_inv hM hwh (fun h1 h2 => mw_lt hM h1 h2) (fun h1 h2 h3 => mg_ok hM hwh h1 h2 h3) ws x [] hw hx (fun m hm => by cases hm) wRed.nil
  refine ⟨a2, a3, ?_⟩
  have : ([] : List Nat).length = 0 := rfl
  unfold wpart wpartL
  omega
theorem wparts_snoc (M : xMac) (w r : List Nat) (x : Nat) : wparts M w (r ++ [x]) = wpart M (wparts M w r) x := by simp [wparts, List.foldl_append]
theorem wparts_good {M : xMac} (hM : mOk M) (hwh : mWhole M) {ws : List Nat} (hw : wOk M ws) (hr : wRed ws) : ∀ r : List Nat, rOk M r → wOk M (wparts M ws r) ∧ wRed (wparts M ws r) ∧ (wparts M ws r).length ≤ ws.length := by
  refine lrev ?_ ?_
  · intro _; exact ⟨hw, hr, Nat.le_refl _⟩
  · intro r x IH hrk
    obtain ⟨a1, a2, a3⟩ := IH (fun y hy => hrk y (List.mem_append_left _ hy))
    obtain ⟨b1, b2, b3⟩ := wpart_good hM hwh a1 (hrk x (List.mem_append_right _ (List.mem_singleton.mpr rfl)))
    rw [wparts_snoc]
    exact ⟨b1, b2, by omega⟩
theorem c9_partAtRow {M : xMac} (h : mMach I M) (hwh : mWhole M) {w to : Nat} {ws r : List Nat} (hw : w < 12) (hto : to < 11) (hW : mWd I w ws) (hok : wOk M ws) (hrd : wRed ws) (hl : ws.length ≤ 17) (hr : mRw I r) (hrl : r.length ≤ 16) (hrk : rOk M r) : xCon G M_X9_partAtRow [.ref (G.1 77), .int (nI w), .int (nI to)] I J (xpv fun I' J' => mWd I' to (wparts M ws r) ∧ mwx [to, 11] I I' ∧ mfx [83, 84] [13, 14] I I' ∧ J = J') := by
  have L : ∀ i, i ≤ r.length → ∀ I1 (z4 : Option Value), mfx [83, 84] [13, 14] I I1 → mwx [to, 11] I I1 → mWd I1 to (wparts M ws (r.take i)) → xT G M_X9_partAtRow (xMQ G (xpv fun I' J' => mWd I' to (wparts M ws r) ∧ mwx [to, 11] I I' ∧ mfx [83, 84] [13, 14] I I' ∧ J = J')) 8 [some (.ref (G.1 77)), some (.int (nI w)), some (.int (nI to)), some (.int (nI i)), z4] [] I1 J := by
    refine x_for (fun i hi IH I1 z4 f1 x1 d1 => ?_)
    obtain ⟨g1, g2, g3⟩ := wparts_good h.1 hwh hok hrd (r.take i) (fun y hy => hrk y (List.mem_of_mem_take hy))
    have h16 : I1 77 16 = nI r.length := (f1.2 16 (by decide)).trans hr.1
    refine xr_iload3 dX9_partAtRow_8 rfl ?_
    refine xr_aload0 dX9_partAtRow_9 rfl ?_
    refine xr_getIv dX9_partAtRow_10 fk_9_156 lay_77 rfl h16 ?_
    refine xr_icmp_ge 44 dX9_partAtRow_13 (by decide) (fun hc => ?_) (fun hc => ?_)
    · have : i = r.length := by have := nle hc; omega
      subst this
      rw [List.take_length] at d1
      refine xr_vret dX9_partAtRow_44 rfl rfl ⟨d1, x1, f1, rfl⟩
    · have hil := nlt hc
      have IH := IH hil
      have h88 : I1 88 i = nI r[i] := by
        have := hr.2 i hil
        rw [Nat.zero_add] at this
        rw [f1.1 88 (by decide) (by decide)]; exact this
      have hx := hrk _ (List.getElem_mem hil)
      refine xr_aload0 dX9_partAtRow_16 rfl ?_
      refine xr_iload2 dX9_partAtRow_17 rfl ?_
      refine xr_aload0 dX9_partAtRow_18 rfl ?_
      refine xr_getR dX9_partAtRow_19 fk_9_45 lay_77 rfl ?_
      refine xr_iload3 dX9_partAtRow_22 rfl ?_
      refine xr_ialdv _ dX9_partAtRow_23 lay_88 (by (try simp only [k_0, k_1, k_2, k_3, k_4, k_5, k_8, k_16, k_34, k_40, k_200, k_201, k_256, k_512, nI_add, pk_mul]); first | done | rfl) (by omega) (by decide) h88 ?_
      refine xr_bip bi_11 dX9_partAtRow_24 ?_
      refine xr_cVi [_, _, _] dX9_partAtRow_26 (xcv_of cf_X9_partAt ml_9_171 (by decide)) rfl lay_77 rfl rfl rfl (Nat.le_of_ble_eq_true rfl) (c9_partAt (to := 11) (f1.mach h (by decide) (by decide)) hwh (by omega) (by decide) (by omega) hx d1 g1 (by omega)) (fun v I2 J2 hc2 => ?_)
      obtain ⟨rfl, d2, x2, f2, rfl⟩ := hc2
      obtain ⟨p1, p2, p3⟩ := wpart_good h.1 hwh g1 hx
      refine xr_istore dX9_partAtRow_29 (Nat.le_of_ble_eq_true rfl) ?_
      show xT _ _ _ 31 [_, _, _, _, _] _ _ _
      refine xr_aload0 dX9_partAtRow_31 rfl ?_
      refine xr_iload2 dX9_partAtRow_32 rfl ?_
      refine xr_bip bi_11 dX9_partAtRow_33 ?_
      refine xr_cVv [_, _] dX9_partAtRow_35 (xcv_of cf_X9_copy ml_9_140 (by decide)) rfl lay_77 rfl rfl rfl (Nat.le_of_ble_eq_true rfl) (c9_copy (by omega) (by decide) d2 (by omega)) (fun I3 J3 hc3 => ?_)
      obtain ⟨d3, x3, f3, rfl⟩ := hc3
      refine xr_iinc dX9_partAtRow_38 rfl ii_1 (Nat.le_of_ble_eq_true rfl) ?_
      show xT _ _ _ 41 [_, _, _, _, _] _ _ _
      refine xr_goto 8 dX9_partAtRow_41 (by decide) ?_
      rw [k_1, nI_add]
      refine IH I3 _ ((f1.tr f2).tr (f3.mono (fun a h => h) (by simp))) ((x1.tr (x2.mono (by simp))).tr (x3.mono (by simp))) ?_
      rw [List.take_succ_eq_append_getElem hil, wparts_snoc]
      exact d3
  refine x_ent (by decide) (Nat.le_of_ble_eq_true rfl) rfl ?_
  show xT _ _ _ 0 [_, _, _, _, _] _ _ _
  refine xr_aload0 dX9_partAtRow_0 rfl ?_
  refine xr_iload2 dX9_partAtRow_1 rfl ?_
  refine xr_iload1 dX9_partAtRow_2 rfl ?_
  refine xr_cVv [_, _] dX9_partAtRow_3 (xcv_of cf_X9_copy ml_9_140 (by decide)) rfl lay_77 rfl rfl rfl (Nat.le_of_ble_eq_true rfl) (c9_copy (by omega) hw hW (by omega)) (fun I1 J1 hc => ?_)
  obtain ⟨d1, x1, f1, rfl⟩ := hc
  refine xr_ic0 dX9_partAtRow_6 ?_
  refine xr_istore3 dX9_partAtRow_7 (Nat.le_of_ble_eq_true rfl) ?_
  show xT _ _ _ 8 [_, _, _, _, _] _ _ _
  exact L 0 (by omega) I1 _ (f1.mono (fun a h => h) (by simp)) (x1.mono (by simp)) (by simpa [wparts] using d1)
theorem c9_part {S : xSt} (a row to : Int32) (h : mIv I S) : xCon G M_X9_part [.ref (G.1 77), .int a, .int row, .int to] I J (xpi fun v I' J' => v = (sp_part S a row to).1 ∧ mIv I' (sp_part S a row to).2 ∧ mfr I J I' J') := by
  refine x_ent (by decide) (Nat.le_of_ble_eq_true rfl) rfl ?_
  show xT _ _ _ 0 [_, _, _, _] _ _ _
  refine xr_iload1 dX9_part_0 rfl ?_
  refine xr_cSi [_] dX9_part_1 (xcs_of cf_X9_isSpot ml_9_137 (by decide)) rfl rfl (Nat.le_of_ble_eq_true rfl) (c9_isSpot _) (fun v I1 J1 hc => ?_)
  obtain ⟨rfl, rfl, rfl⟩ := hc
  refine xr_if_eq 24 dX9_part_4 (by decide) (fun hs => ?_) (fun hs => ?_)
  · have hs := is_n hs
    refine xr_icm1 dX9_part_24 ?_
    refine xr_iret dX9_part_25 rfl rfl ⟨by simp [sp_part, hs], by simpa [sp_part, hs] using h, mfr.rf⟩
  obtain ⟨w, hs⟩ := is_s hs
  obtain ⟨hw8, rfl⟩ := ix_some hs
  refine xr_aload0 dX9_part_7 rfl ?_
  refine xr_iload2 dX9_part_8 rfl ?_
  refine xr_bip bi_10 dX9_part_9 ?_
  refine xr_cVi [_, _] dX9_part_11 (xcv_of cf_X9_takeRow ml_9_159 (by decide)) rfl lay_77 rfl rfl rfl (Nat.le_of_ble_eq_true rfl) (c9_takeRow h.2.1 row) (fun v I1 J1 hc => ?_)
  obtain ⟨rfl, hrw, f1, rfl⟩ := hc
  have hI1 := f1.iv h (by decide) (by decide)
  refine xr_if_eq 24 dX9_part_14 (by decide) (fun hr => ?_) (fun hr => ?_)
  · have hr := is_n hr
    refine xr_icm1 dX9_part_24 ?_
    refine xr_iret dX9_part_25 rfl rfl ⟨by simp [sp_part, hs, hr], by simpa [sp_part, hs, hr] using hI1, f1.fr (by decide) rfl⟩
  obtain ⟨r, hr⟩ := is_s hr
  obtain ⟨rl, rk, rfl⟩ := rowOf_some hr
  have hrw := hrw r hr
  refine xr_iload3 dX9_part_17 rfl ?_
  refine xr_cSi [_] dX9_part_18 (xcs_of cf_X9_isSpot ml_9_137 (by decide)) rfl rfl (Nat.le_of_ble_eq_true rfl) (c9_isSpot _) (fun v I2 J2 hc => ?_)
  obtain ⟨rfl, rfl, rfl⟩ := hc
  refine xr_if_ne 26 dX9_part_21 (by decide) (fun hto => ?_) (fun hto => ?_)
  rotate_left
  · have hto := is_n hto
    refine xr_icm1 dX9_part_24 ?_
    refine xr_iret dX9_part_25 rfl rfl ⟨by simp [sp_part, hs, hr, hto], by simpa [sp_part, hs, hr, hto] using hI1, f1.fr (by decide) rfl⟩
  obtain ⟨to', hto⟩ := is_s hto
  obtain ⟨hto8, rfl⟩ := ix_some hto
  refine xr_aload0 dX9_part_26 rfl ?_
  refine xr_cVi [] dX9_part_27 (xcv_of cf_X9_isWhole ml_9_133 (by decide)) rfl lay_77 rfl rfl rfl (Nat.le_of_ble_eq_true rfl) (c9_isWhole hI1.2.1) (fun v I2 J2 hc => ?_)
  obtain ⟨rfl, rfl, rfl⟩ := hc
  refine xr_if_ne 36 dX9_part_30 (by decide) (fun hwh => ?_) (fun hwh => ?_)
  rotate_left
  · have hwh := b2_0.mp hwh
    refine xr_bip bi_m5 dX9_part_33 ?_
    have e2 : sp_part S (nI w) (nI (rowNum r)) (nI to') = (-5, S) := by simp [sp_part, hs, hr, hto, hwh]
    refine xr_iret dX9_part_35 rfl rfl ⟨by rw [e2], by rw [e2]; exact hI1, f1.fr (by decide) rfl⟩
  have hwh : mW S.2.1 = true := by
    cases hq : mW S.2.1 with
    | true => rfl
    | false => rw [hq] at hwh; exact absurd rfl hwh
  have hwhole := mW_iff.mp hwh
  obtain ⟨wd, wl, wr, wo⟩ := hI1.2.2 w hw8
  have e2 : sp_part S (nI w) (nI (rowNum r)) (nI to') = (nI (wparts S.2.1 (S.2.2 w) r).length, (S.1, S.2.1, va_up S.2.2 to' (wparts S.2.1 (S.2.2 w) r))) := by simp [sp_part, hs, hr, hto, hwh]
  obtain ⟨g1, g2, g3⟩ := wparts_good h.2.1.1 hwhole wo wr r rk
  refine xr_aload0 dX9_part_36 rfl ?_
  refine xr_iload1 dX9_part_37 rfl ?_
  refine xr_bip bi_8 dX9_part_38 ?_
  refine xr_cVv [_, _] dX9_part_40 (xcv_of cf_X9_partAtRow ml_9_175 (by decide)) rfl lay_77 rfl rfl rfl (Nat.le_of_ble_eq_true rfl) (c9_partAtRow (to := 8) hI1.2.1 hwhole (by omega) (by decide) wd wo wr (by omega) hrw (by omega) rk) (fun I2 J2 hc => ?_)
  obtain ⟨d2, x2, f2, rfl⟩ := hc
  refine xr_aload0 dX9_part_43 rfl ?_
  refine xr_iload3 dX9_part_44 rfl ?_
  refine xr_bip bi_8 dX9_part_45 ?_
  refine xr_cVv [_, _] dX9_part_47 (xcv_of cf_X9_copy ml_9_140 (by decide)) rfl lay_77 rfl rfl rfl (Nat.le_of_ble_eq_true rfl) (c9_copy (by omega) (by decide) d2 (by omega)) (fun I3 J3 hc => ?_)
  obtain ⟨d3, x3, f3, rfl⟩ := hc
  have f12 : mfx [83, 84, 88] [13, 14, 16] I I3 := ((f1.mono (by simp) (by simp)).tr (f2.mono (by simp) (by simp))).tr (f3.mono (by simp) (by simp))
  have x1 : mwx [to', 8, 11] I I1 := mwx.of (f1.1 83 (by decide) (by decide)) (f1.1 84 (by decide) (by decide))
  refine xr_aload0 dX9_part_50 rfl ?_
  refine xr_getR dX9_part_51 fk_9_32 lay_77 rfl ?_
  refine xr_iload3 dX9_part_54 rfl ?_
  refine xr_ialdv _ dX9_part_55 lay_84 (by (try simp only [k_0, k_1, k_2, k_3, k_4, k_5, k_8, k_16, k_34, k_40, k_200, k_201, k_256, k_512, nI_add, pk_mul]); first | done | rfl) (by omega) (by decide) d3.1 ?_
  refine xr_iret dX9_part_56 rfl rfl ⟨by rw [e2], ?_, f12.fr (by decide) rfl⟩
  rw [e2]
  exact ⟨f12.sh h.1 (by decide), f12.mach h.2.1 (by decide) (by decide), h.2.2.set (W := [8, 11]) ((x1.tr (x2.mono (by simp))).tr (x3.mono (by simp))) (by decide) d3 ⟨by omega, g2, g1⟩⟩
end M12
