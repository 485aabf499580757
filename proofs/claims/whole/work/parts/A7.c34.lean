section C34
variable {G : xG} {I : xI} {J : xJ}
theorem gC_in {M : xMac} (hM : mOk M) (hwh : mWhole M) {n s : Nat} {g : List Nat} (h : gC (mK M ^ n) (gBk M n s) g) : gIn M n g := by
  have hgp := gBk_p hM hwh (n := n) (s := s)
  refine (h (fun g => gP (mK M ^ n) g ∧ gIn M n g) ⟨gP.one _, gIn.one M n⟩ (fun a γ ha hγ => ⟨ha.1.mul (hgp γ hγ), ?_⟩)).2
  obtain ⟨t, ht, rfl⟩ := List.mem_map.mp hγ
  have hb := mB_iff.mp (List.mem_filter.mp ht).2
  have hb2 : mBack M (2 * t / 2) := by rw [show 2 * t / 2 = t by omega]; exact hb
  rw [← map_gM ha.1.2.1]
  exact ha.2.step (marks_in hb2.okm) hb2
theorem gBk_succ (M : xMac) (n s : Nat) : gBk M n (s + 1) = gBk M n s ++ (if mB M s then [gM M n (2 * s)] else []) := by
  unfold gBk
  rw [List.range_succ, List.filter_append, List.map_append]
  congr 1
  cases h : mB M s with
  | false => rw [List.filter_cons_of_neg (by rw [h]; decide)]; rfl
  | true => rw [List.filter_cons_of_pos (by rw [h])]; rfl
theorem c2_packed {M : xMac} (hM : mOk M) (hwh : mWhole M) {n bt m : Nat} (hn : mK M ^ n ≤ 16) (htb : cTb I M bt) (hbt : n < bt) (hmm : m ∈ mMarks M) : xCon G M_X2_packed [.ref (G.1 27), .int (nI m), .int (nI n)] I J (xpl fun v I' J' => v = gKey (gM M n m) ∧ I = I' ∧ J = J') := by
  have hK2 := hM.1
  have hn8 := lvl_8 hK2 (show mK M ^ n ≤ 256 by omega)
  have hs1 := sK_lt hK2 n
  have hm16 := marks_16 hM hmm
  obtain ⟨t1, t2, t3⟩ := htb n hbt
  have t3 := t3 m hmm
  have hfl : ∀ p, mkp M n m p < mK M ^ n := fun p => mkp_lt hM hwh (mMarks_ok M m hmm)
  have L : ∀ p, p ≤ mK M ^ n → xT G M_X2_packed (xMQ G (xpl fun v I' J' => v = gKey (gM M n m) ∧ I = I' ∧ J = J')) 5 [some (.ref (G.1 27)), some (.int (nI m)), some (.int (nI n)), some (.long (gKey ((List.range p).map (mkp M n m)))), none, some (.int (nI p))] [] I J := by
    refine x_for (fun p hp IH => ?_)
    refine xr_iload dX2_packed_5 rfl ?_
    refine xr_aload0 dX2_packed_7 rfl ?_
    refine xr_getR dX2_packed_8 fk_2_15 lay_27 rfl ?_
    refine xr_iload2 dX2_packed_11 rfl ?_
    refine xr_ialdv n dX2_packed_12 lay_29 rfl (by omega) (by decide) t1 ?_
    refine xr_icmp_ge 51 dX2_packed_13 (by decide) (fun hc => ?_) (fun hc => ?_)
    · have : p = mK M ^ n := by have := nle hc; omega
      subst this
      refine xr_lload3 dX2_packed_51 rfl ?_
      refine xr_lret dX2_packed_52 rfl rfl ⟨rfl, rfl, rfl⟩
    have hpl := nlt hc
    have IH := IH hpl
    have vt := t3 p hpl
    have hpush : gKey ((List.range p).map (mkp M n m)) ||| ((nI (mkp M n m p)).toInt64 <<< ((nI 4 * nI p).toInt64 &&& 63)) = gKey ((List.range (p + 1)).map (mkp M n m)) := by
      have h3 := key_push (l := (List.range p).map (mkp M n m)) (fun x hx => by
        obtain ⟨y, -, rfl⟩ := List.mem_map.mp hx
        have := hfl y
        omega) (by simp; omega) (x := mkp M n m p) (by have := hfl p; omega)
      rw [List.length_map, List.length_range] at h3
      rw [pk_mul, List.range_succ, List.map_append]
      exact h3
    refine xr_lload3 dX2_packed_16 rfl ?_
    refine xr_aload0 dX2_packed_17 rfl ?_
    refine xr_getR dX2_packed_18 fk_2_11 lay_27 rfl ?_
    refine xr_iload1 dX2_packed_21 rfl ?_
    refine xr_sip si_512 dX2_packed_22 ?_
    refine xr_imul dX2_packed_25 ?_
    refine xr_aload0 dX2_packed_26 rfl ?_
    refine xr_getR dX2_packed_27 fk_2_18 lay_27 rfl ?_
    show xT _ _ _ 30 _ _ _ _
    refine xr_iload2 dX2_packed_30 rfl ?_
    refine xr_ialdv n dX2_packed_31 lay_30 rfl (by omega) (by decide) t2 ?_
    refine xr_iadd dX2_packed_32 ?_
    refine xr_iload dX2_packed_33 rfl ?_
    refine xr_iadd dX2_packed_35 ?_
    rw [show (512 : Int32) = nI 512 from rfl, pk_mul, nI_add, nI_add, Nat.mul_comm m 512]
    refine xr_ialdv (512 * m + sK (mK M) n + p) dX2_packed_36 lay_28 rfl (by omega) (by decide) vt ?_
    refine xr_i2l dX2_packed_37 ?_
    refine xr_ic4 dX2_packed_38 ?_
    refine xr_iload dX2_packed_39 rfl ?_
    refine xr_imul dX2_packed_41 ?_
    refine xr_lshl dX2_packed_42 ?_
    refine xr_lor dX2_packed_43 ?_
    rw [k_4, hpush]
    refine xr_lstore3 dX2_packed_44 (Nat.le_of_ble_eq_true rfl) ?_
    show xT _ _ _ 45 [_, _, _, _, _, _] _ _ _
    refine xr_iinc dX2_packed_45 rfl ii_1 (Nat.le_of_ble_eq_true rfl) ?_
    show xT _ _ _ 48 [_, _, _, _, _, _] _ _ _
    refine xr_goto 5 dX2_packed_48 (by decide) ?_
    rw [k_1, nI_add]
    exact IH
  refine x_ent (by decide) (Nat.le_of_ble_eq_true rfl) rfl ?_
  show xT _ _ _ 0 [_, _, _, _, _, _] _ _ _
  refine xr_lc0 dX2_packed_0 ?_
  refine xr_lstore3 dX2_packed_1 (Nat.le_of_ble_eq_true rfl) ?_
  show xT _ _ _ 2 [_, _, _, _, _, _] _ _ _
  refine xr_ic0 dX2_packed_2 ?_
  refine xr_istore dX2_packed_3 (Nat.le_of_ble_eq_true rfl) ?_
  show xT _ _ _ 5 [_, _, _, _, _, _] _ _ _
  exact L 0 (Nat.zero_le _)
theorem c8_group {S : xSt} (n : Int32) (hm : cMc I S.2.1) (hlv : cLv I S.2.1) (hk : ∃ ks, kT I J 36 3000 4096 ks) : xCon G M_X8_group [.ref (G.1 0), .int n] I J (xpi fun v I' J' => v = sp_group S n ∧ cLv I' S.2.1 ∧ (∃ ks, kT I' J' 36 3000 4096 ks) ∧ cfx [27, 28, 29, 30, 35, 36, 37, 38, 39, 40] I J I' J') := by
  have hM := hm.1.1
  have hK2 := hM.1
  have hN8 := hM.2.2.1
  refine x_ent (by decide) (Nat.le_of_ble_eq_true rfl) rfl ?_
  show xT _ _ _ 0 [_, _, _, _] _ _ _
  refine xr_aload0 dX8_group_0 rfl ?_
  refine xr_getR dX8_group_1 fk_8_33 lay_0 rfl ?_
  refine xr_iload1 dX8_group_4 rfl ?_
  refine xr_bip bi_16 dX8_group_5 ?_
  rw [k_16]
  refine xr_cVi [_, _] dX8_group_7 (xcv_of cf_X3_power ml_8_220 (by decide)) rfl lay_21 rfl rfl rfl (Nat.le_of_ble_eq_true rfl) (c3_power hm.1 n (by decide) (by decide)) (fun v I1 J1 hc => ?_)
  obtain ⟨rfl, rfl, rfl⟩ := hc
  cases hl : lvl (mK S.2.1) n 16 with
  | none =>
    refine xr_istore2 dX8_group_10 (Nat.le_of_ble_eq_true rfl) ?_
    show xT _ _ _ 11 [_, _, _, _] _ _ _
    refine xr_iload2 dX8_group_11 rfl ?_
    refine xr_if_ne 17 dX8_group_12 (by decide) (fun hz => ?_) (fun hz => ?_)
    · exact absurd rfl hz
    refine xr_icm1 dX8_group_15 ?_
    refine xr_iret dX8_group_16 rfl rfl ⟨by simp [sp_group, hl], hlv, hk, cfx.rf⟩
  | some n' =>
  obtain ⟨rfl, hn⟩ := lvl_some hl
  have hpos : 0 < mK S.2.1 ^ n' := Nat.pow_pos (by omega)
  refine xr_istore2 dX8_group_10 (Nat.le_of_ble_eq_true rfl) ?_
  show xT _ _ _ 11 [_, _, _, _] _ _ _
  refine xr_iload2 dX8_group_11 rfl ?_
  refine xr_if_ne 17 dX8_group_12 (by decide) (fun hz => ?_) (fun hz => ?_)
  rotate_left
  · have := (nI_eq (b := 0) (by omega) (by decide)).mp hz; omega
  refine xr_aload0 dX8_group_17 rfl ?_
  refine xr_getR dX8_group_18 fk_8_33 lay_0 rfl ?_
  refine xr_getIv dX8_group_21 fk_8_139 lay_21 rfl hm.2.2.1 ?_
  refine xr_if_ne 30 dX8_group_24 (by decide) (fun hwh => ?_) (fun hwh => ?_)
  rotate_left
  · have hwh := b2_0.mp hwh
    refine xr_bip bi_m5 dX8_group_27 ?_
    refine xr_iret dX8_group_29 rfl rfl ⟨by simp [sp_group, hl, hwh], hlv, hk, cfx.rf⟩
  have hwh : mW S.2.1 = true := by
    cases hq : mW S.2.1 with
    | true => rfl
    | false => rw [hq] at hwh; exact absurd rfl hwh
  have hwhole := mW_iff.mp hwh
  obtain ⟨ks, hk⟩ := hk
  refine xr_aload0 dX8_group_30 rfl ?_
  refine xr_getR dX8_group_31 fk_8_40 lay_0 rfl ?_
  refine xr_aload0 dX8_group_34 rfl ?_
  refine xr_getR dX8_group_35 fk_8_33 lay_0 rfl ?_
  refine xr_iload1 dX8_group_38 rfl ?_
  refine xr_cVv [_, _] dX8_group_39 (xcv_of cf_X2_build ml_8_223 (by decide)) rfl lay_27 rfl rfl rfl (Nat.le_of_ble_eq_true rfl) (c2_build hm hwhole (show mK S.2.1 ^ n' ≤ 256 by omega) hlv) (fun I1 J1 hc => ?_)
  obtain ⟨lv1, ⟨bt, hbt, tb1⟩, e1, rfl⟩ := hc
  have f1 : cfx [27, 28, 29, 30, 35, 36, 37, 38, 39, 40] I J I1 J := fun a ha => ⟨e1 a (fun q => ha (by rw [q]; simp)) (fun q => ha (by rw [q]; simp)) (fun q => ha (by rw [q]; simp)) (fun q => ha (by rw [q]; simp)), rfl⟩
  refine xr_aload0 dX8_group_42 rfl ?_
  refine xr_getR dX8_group_43 fk_8_47 lay_0 rfl ?_
  refine xr_iload2 dX8_group_46 rfl ?_
  refine xr_cVv [_] dX8_group_47 (xcv_of cf_X1_begin ml_8_256 (by decide)) rfl lay_35 rfl rfl rfl (Nat.le_of_ble_eq_true rfl) (c1_begin hn (hk.cg (fun a h1 h2 => ⟨e1 a (by omega) (by omega) (by omega) (by omega), rfl⟩) : kT I1 J 36 3000 4096 ks)) (fun I2 J2 hc => ?_)
  obtain ⟨c2, f2⟩ := hc
  have hgp := fun s => gBk_p hM hwhole (n := n') (s := s)
  have L : ∀ s, s ≤ mN S.2.1 → ∀ I3 J3 (ms gm : List (List Nat)), cfx [35, 36, 37, 38, 39, 40] I1 J I3 J3 → cGr I3 J3 (mK S.2.1 ^ n') ms gm → (∀ γ ∈ gm, gP (mK S.2.1 ^ n') γ) → isGC (mK S.2.1 ^ n') gm ms → ms[0]? = some (List.range (mK S.2.1 ^ n')) → gm.length ≤ s → (∀ g, gC (mK S.2.1 ^ n') gm g ↔ gC (mK S.2.1 ^ n') (gBk S.2.1 n' s) g) → xT G M_X8_group (xMQ G (xpi fun v I' J' => v = sp_group S (nI n') ∧ cLv I' S.2.1 ∧ (∃ ks, kT I' J' 36 3000 4096 ks) ∧ cfx [27, 28, 29, 30, 35, 36, 37, 38, 39, 40] I J I' J')) 52 [some (.ref (G.1 0)), some (.int (nI n')), some (.int (nI (mK S.2.1 ^ n'))), some (.int (nI s))] [] I3 J3 := by
    refine x_for (fun s hs IH I3 J3 ms gm f3 c3 g3 i3 o3 l3 q3 => ?_)
    have m1 := f1.mc hm (by decide)
    have m3 := f3.mc m1 (by decide)
    have lv3 := lv1.fx f3 (by decide)
    have f03 : cfx [27, 28, 29, 30, 35, 36, 37, 38, 39, 40] I J I3 J3 := f1.tr (f3.mono (by simp))
    obtain ⟨hml, hmc, -⟩ := c3.len
    refine xr_iload3 dX8_group_52 rfl ?_
    refine xr_aload0 dX8_group_53 rfl ?_
    refine xr_getR dX8_group_54 fk_8_33 lay_0 rfl ?_
    refine xr_getIv dX8_group_57 fk_8_102 lay_21 rfl m3.1.2.2.1 ?_
    refine xr_icmp_ge 104 dX8_group_60 (by decide) (fun hc => ?_) (fun hc => ?_)
    · have : s = mN S.2.1 := by have := nle hc; omega
      subst this
      refine xr_aload0 dX8_group_104 rfl ?_
      refine xr_getR dX8_group_105 fk_8_47 lay_0 rfl ?_
      refine xr_getR dX8_group_108 fk_8_267 lay_35 rfl ?_
      refine xr_getIv dX8_group_111 fk_8_212 lay_36 rfl hmc ?_
      refine xr_iret dX8_group_114 rfl rfl ⟨?_, lv3, ⟨_, c3.1⟩, f03⟩
      have hGp : isGp S.2.1 n' ms := gBk_all hM hwhole ⟨i3.1, fun g => (i3.2 g).trans (q3 g)⟩
      simp [sp_group, hl, hwh, gN_some hGp hml]
    have hsl := nlt hc
    have IH := IH hsl
    refine xr_aload0 dX8_group_63 rfl ?_
    refine xr_getR dX8_group_64 fk_8_33 lay_0 rfl ?_
    refine xr_iload3 dX8_group_67 rfl ?_
    refine xr_cVi [_] dX8_group_68 (xcv_of cf_X3_isBack ml_8_127 (by decide)) rfl lay_21 rfl rfl rfl (Nat.le_of_ble_eq_true rfl) (c3_isBack m3.2.1 (by omega)) (fun v I4 J4 hc4 => ?_)
    obtain ⟨rfl, rfl, rfl⟩ := hc4
    refine xr_if_eq 98 dX8_group_71 (by decide) (fun hb => ?_) (fun hb => ?_)
    · have hb := b2_0.mp hb
      refine xr_iinc dX8_group_98 rfl ii_1 (Nat.le_of_ble_eq_true rfl) ?_
      show xT _ _ _ 101 [_, _, _, _] _ _ _
      refine xr_goto 52 dX8_group_101 (by decide) ?_
      rw [k_1, nI_add]
      refine IH I3 J3 ms gm f3 c3 g3 i3 o3 (by omega) (fun g => ?_)
      rw [q3 g, gBk_succ, hb]
      simp
    have hb : mB S.2.1 s = true := by
      cases hq : mB S.2.1 s with
      | true => rfl
      | false => rw [hq] at hb; exact absurd rfl hb
    have hb2 : mBack S.2.1 (2 * s / 2) := by rw [show 2 * s / 2 = s by omega]; exact mB_iff.mp hb
    have hbs : gBk S.2.1 n' (s + 1) = gBk S.2.1 n' s ++ [gM S.2.1 n' (2 * s)] := by rw [gBk_succ, hb]; rfl
    have hγ := gM_p hM hwhole (n := n') hb2
    have hgs : ∀ γ ∈ gm ++ [gM S.2.1 n' (2 * s)], gP (mK S.2.1 ^ n') γ := fun γ hq => by
      rcases List.mem_append.mp hq with q | q
      · exact g3 γ q
      · rw [List.mem_singleton.mp q]; exact hγ
    have hcl : ∀ g, gC (mK S.2.1 ^ n') (gm ++ [gM S.2.1 n' (2 * s)]) g ↔ gC (mK S.2.1 ^ n') (gBk S.2.1 n' (s + 1)) g := fun g => by
      constructor
      · refine fun h => h.mono (hgp (s + 1)) (fun γ hq => ?_)
        rcases List.mem_append.mp hq with q | q
        · refine ((q3 γ).mp (gC.gen g3 q)).mono (hgp (s + 1)) (fun δ hδ => gC.gen (hgp (s + 1)) ?_)
          rw [hbs]; exact List.mem_append_left _ hδ
        · refine gC.gen (hgp (s + 1)) ?_
          rw [hbs]; exact List.mem_append_right _ q
      · refine fun h => h.mono hgs (fun γ hq => ?_)
        rw [hbs] at hq
        rcases List.mem_append.mp hq with q | q
        · exact ((q3 γ).mpr (gC.gen (hgp s) q)).mono hgs (fun δ hδ => gC.gen hgs (List.mem_append_left _ hδ))
        · exact gC.gen hgs (List.mem_append_right _ q)
    have tb3 : cTb I3 S.2.1 bt := fun j hj => by rw [(f3 28 (by decide)).1, (f3 29 (by decide)).1, (f3 30 (by decide)).1]; exact tb1 j hj
    refine xr_aload0 dX8_group_74 rfl ?_
    refine xr_getR dX8_group_75 fk_8_47 lay_0 rfl ?_
    refine xr_aload0 dX8_group_78 rfl ?_
    refine xr_getR dX8_group_79 fk_8_40 lay_0 rfl ?_
    refine xr_ic2 dX8_group_82 ?_
    refine xr_iload3 dX8_group_83 rfl ?_
    refine xr_imul dX8_group_84 ?_
    refine xr_iload1 dX8_group_85 rfl ?_
    show xT _ _ _ 86 _ _ _ _
    rw [k_2, pk_mul]
    refine xr_cVl [_, _] dX8_group_86 (xcv_of cf_X2_packed ml_8_259 (by decide)) rfl lay_27 rfl rfl rfl (Nat.le_of_ble_eq_true rfl) (c2_packed hM hwhole hn tb3 hbt (marks_in hb2.okm)) (fun v I4 J4 hc4 => ?_)
    obtain ⟨rfl, rfl, rfl⟩ := hc4
    refine xr_cVi [_] dX8_group_89 (xcv_of cf_X1_bringIn ml_8_263 (by decide)) rfl lay_35 rfl rfl rfl (Nat.le_of_ble_eq_true rfl) (c1_bringIn hn c3 g3 i3 o3 (by omega) hγ) (fun v I4 J4 hc4 => ?_)
    obtain ⟨hv, f4⟩ := hc4
    have f34 : cfx [35, 36, 37, 38, 39, 40] I1 J I4 J4 := f3.tr f4
    rcases hv with ⟨rfl, ms', gm', c4, g4, i4, o4, l4, q4⟩ | ⟨rfl, ⟨ms4, c4⟩, ms', hn4, hl4, q4⟩
    · skip
      refine xr_if_ne 98 dX8_group_92 (by decide) (fun hz => ?_) (fun hz => ?_)
      rotate_left
      · exact absurd hz (by decide)
      refine xr_iinc dX8_group_98 rfl ii_1 (Nat.le_of_ble_eq_true rfl) ?_
      show xT _ _ _ 101 [_, _, _, _] _ _ _
      refine xr_goto 52 dX8_group_101 (by decide) ?_
      rw [k_1, nI_add]
      exact IH I4 J4 ms' gm' f34 c4 g4 i4 o4 (by omega) (fun g => (q4 g).trans (hcl g))
    · skip
      refine xr_if_ne 98 dX8_group_92 (by decide) (fun hz => ?_) (fun hz => ?_)
      · exact absurd rfl hz
      refine xr_bip bi_m7 dX8_group_95 ?_
      refine xr_iret dX8_group_97 rfl rfl ⟨?_, lv1.fx f34 (by decide), ⟨_, c4.1⟩, f1.tr (f34.mono (by simp))⟩
      have hno : gN S.2.1 n' = none := gN_none hn4 (fun g hg => gC_in hM hwhole ((hcl g).mp (q4 g hg))) hl4
      simp [sp_group, hl, hwh, hno]
  refine xr_ic0 dX8_group_50 ?_
  refine xr_istore3 dX8_group_51 (Nat.le_of_ble_eq_true rfl) ?_
  show xT _ _ _ 52 [_, _, _, _] _ _ _
  refine L 0 (Nat.zero_le _) I2 J2 [List.range (mK S.2.1 ^ n')] [] (f2.mono (by simp)) c2 (fun γ hγ => by cases hγ) ⟨by simp, fun g => ⟨fun hg => ?_, fun hg => ?_⟩⟩ rfl (Nat.le_refl _) (fun g => Iff.rfl)
  · rw [List.mem_singleton.mp hg]; exact gC.one
  · exact hg (fun g => g ∈ [List.range (mK S.2.1 ^ n')]) (by simp) (fun a γ _ hγ => by cases hγ)
end C34
