section M26
variable {G : xG} {I : xI} {J : xJ}
theorem c9_way {S : xSt} (a b i : Int32) (h : mIv I S) : xCon G M_X9_way [.ref (G.1 77), .int a, .int b, .int i] I J (xpi fun v I' J' => v = sp_way S a b i ∧ mIv I' S ∧ mfr I J I' J') := by
  refine x_ent (by decide) (Nat.le_of_ble_eq_true rfl) rfl ?_
  show xT _ _ _ 0 [_, _, _, _, _, _, _, _, _] _ _ _
  refine xr_aload0 dX9_way_0 rfl ?_
  refine xr_iload1 dX9_way_1 rfl ?_
  refine xr_iload2 dX9_way_2 rfl ?_
  refine xr_cVi [_, _] dX9_way_3 (xcv_of cf_X9_far ml_9_267 (by decide)) rfl lay_77 rfl rfl rfl (Nat.le_of_ble_eq_true rfl) (c9_far a b h) (fun v I1 J1 hc => ?_)
  obtain ⟨rfl, h1, f1, rfl⟩ := hc
  have hI1 := f1.iv h (by decide) (by decide)
  refine xr_istore dX9_way_6 (Nat.le_of_ble_eq_true rfl) ?_
  show xT _ _ _ 8 [_, _, _, _, _, _, _, _, _] _ _ _
  refine xr_iload3 dX9_way_8 rfl ?_
  refine xr_if_lt 18 dX9_way_9 (by decide) (fun hi0 => ?_) (fun hi0 => ?_)
  · skip
    refine xr_ic0 dX9_way_18 ?_
    refine xr_iret dX9_way_19 rfl rfl ⟨by rw [sp_way, if_pos (Or.inl hi0)], hI1, f1.fr (by decide) rfl⟩
  refine xr_iload3 dX9_way_12 rfl ?_
  refine xr_iload dX9_way_13 rfl ?_
  refine xr_icmp_lt 20 dX9_way_15 (by decide) (fun hif => ?_) (fun hif => ?_)
  rotate_left
  · skip
    refine xr_ic0 dX9_way_18 ?_
    refine xr_iret dX9_way_19 rfl rfl ⟨by rw [sp_way, if_pos (Or.inr (Int32.not_lt.mp hif))], hI1, f1.fr (by decide) rfl⟩
  -- far wasn't refused
  have hpos : 0 ≤ i.toInt ∧ i.toInt < (sp_far S a b).toInt := by
    rw [lt_toInt, ti_0] at hi0
    rw [lt_toInt] at hif
    omega
  have hz : sp_rows S a b = 0 := by
    apply Classical.byContradiction
    intro q
    have e : sp_far S a b = sp_rows S a b := by rw [sp_far, if_neg q]
    rw [e] at hpos
    have : sp_rows S a b = -1 ∨ sp_rows S a b = -5 ∨ sp_rows S a b = 0 := by
      unfold sp_rows
      split
      · split
        · unfold sp_lev
          split
          · exact Or.inl rfl
          · split
            · exact Or.inr (Or.inl rfl)
            · exact Or.inr (Or.inr rfl)
        · exact Or.inl rfl
      · exact Or.inl rfl
    rcases this with e | e | e
    · rw [e, ti_m1] at hpos; omega
    · rw [e, show (-5 : Int32).toInt = -5 by decide] at hpos; omega
    · exact q e
  obtain ⟨hwh, ⟨hlv, rk, rl, z33, lv⟩, rk2, hl2, z34⟩ := h1 hz
  have hfl := plc_lt _ rk
  have hf2 := plc_lt _ rk2
  rw [hl2] at hf2
  have hdl : ∀ {p g d : Nat}, p < mK S.2.1 ^ (xrw S a).length → isD S.2.1 (xrw S a).length p g d → d < mK S.2.1 ^ (xrw S a).length := fun hp h' => isD_lt (rch_lt h.2.1.1 hwh (fun h' => mkp_lt h.2.1.1 hwh h') (mMarks_ok S.2.1) hp) h'
  have hfar : ∃ D, dst S.2.1 (xrw S a).length (plc (mK S.2.1) (xrw S a)) (plc (mK S.2.1) (xrw S b)) = some D ∧ sp_far S a b = nI D := by
    cases hd : dst S.2.1 (xrw S a).length (plc (mK S.2.1) (xrw S a)) (plc (mK S.2.1) (xrw S b)) with
    | none =>
      have : sp_far S a b = -8 := by rw [sp_far, if_pos hz, hd]
      rw [this, show (-8 : Int32).toInt = -8 by decide] at hpos
      omega
    | some D => exact ⟨D, rfl, by rw [sp_far, if_pos hz, hd]⟩
  obtain ⟨D, hD, hDf⟩ := hfar
  have hDD := dst_of hD
  have hDl := hdl hfl hDD
  have hii : i = nI (w2n i) := (nI_w2n hi0).symm
  have hiD : w2n i < D := by
    rw [hDf, nI_toInt (by omega)] at hpos
    unfold w2n
    omega
  have e : sp_way S a b i = tok (wayAt S.2.1 (xrw S a).length (plc (mK S.2.1) (xrw S b)) (w2n i) (plc (mK S.2.1) (xrw S a)) D) := by
    rw [sp_way, if_neg (fun q => by
      rcases q with q | q
      · exact hi0 q
      · exact absurd hif (Int32.not_lt.mpr q)), hDf, w2n_nI (by omega)]
  rw [hDf]
  have hml := mMarks_len S.2.1
  have hN8 := h.2.1.1.2.2.1
  generalize xrw S a = r at hlv rk rl z33 lv hfl hf2 hdl hD hDD hDl e
  generalize hgg : plc (mK S.2.1) (xrw S b) = g at z34 hf2 hD hDD e
  refine xr_aload0 dX9_way_20 rfl ?_
  refine xr_aload0 dX9_way_21 rfl ?_
  refine xr_getIv dX9_way_22 fk_9_261 lay_77 rfl z34 ?_
  refine xr_cVv [_] dX9_way_25 (xcv_of cf_X9_findFarTo ml_9_270 (by decide)) rfl lay_77 rfl rfl rfl (Nat.le_of_ble_eq_true rfl) (c9_findFarTo h.2.1.1 hwh hlv lv hf2) (fun I2 J2 hc => ?_)
  obtain ⟨d2, f2, rfl⟩ := hc
  have f12 : mfx [85, 86, 88, 96, 99, 100] [11, 13, 14, 16, 28, 33, 34] I I2 := (f1.mono (by simp) (fun a h => h)).tr (f2.mono (by simp) (by simp))
  have hI2 := f12.iv h (by decide) (by decide)
  have z33' : I2 77 33 = nI (plc (mK S.2.1) r) := by rw [f2.2 33 (by decide)]; exact z33
  have m96 : ∀ t (ht : t < (mMarks S.2.1).length) p, p < mK S.2.1 ^ r.length → I2 96 (256 * t + p) = nI (mkp S.2.1 r.length (mMarks S.2.1)[t] p) := fun t ht p hp => by rw [f2.1 96 (by decide) (by decide)]; exact lv.2.2 t ht p hp
  have t86 : ∀ t (ht : t < (mMarks S.2.1).length), I2 86 t = tok (mMarks S.2.1)[t] := fun t ht => by
    rw [f2.1 86 (by decide) (by decide)]
    have := lv.2.1.2 t ht
    rw [Nat.zero_add] at this
    exact this
  -- one step
  have stp : ∀ (p d k : Nat) (tk : Int32) (z8 : Option Value), p < mK S.2.1 ^ r.length → isD S.2.1 r.length p g (d + 1) → k ≤ w2n i → (xT G M_X9_way (xMQ G (xpi fun v I' J' => v = sp_way S a b i ∧ mIv I' S ∧ mfr I J I' J')) 40 [some (.ref (G.1 77)), some (.int a), some (.int b), some (.int i), some (.int (nI D)), some (.int (nI (mkp S.2.1 r.length (wm S.2.1 r.length g p d) p))), some (.int (tok (wm S.2.1 r.length g p d))), some (.int (nI (k + 1))), none] [] I2 J) → xT G M_X9_way (xMQ G (xpi fun v I' J' => v = sp_way S a b i ∧ mIv I' S ∧ mfr I J I' J')) 40 [some (.ref (G.1 77)), some (.int a), some (.int b), some (.int i), some (.int (nI D)), some (.int (nI p)), some (.int tk), some (.int (nI k)), z8] [] I2 J := by
    intro p d k tk z8 hp hd hk hnext
    obtain ⟨T, hT, hTm, hTd, hTmin⟩ := wm_at hd
    have hdp := hdl hp hd
    have hpv := d2 p hp
    rw [dst_some hd] at hpv
    refine xr_iload dX9_way_40 rfl ?_
    refine xr_iload3 dX9_way_42 rfl ?_
    rw [hii]
    refine xr_icmp_gt 117 dX9_way_43 (by decide) (fun hgt => ?_) (fun hgt => ?_)
    · have := nltl hgt (by omega) (by omega)
      omega
    rw [← hii]
    refine xr_ic0 dX9_way_46 ?_
    refine xr_istore dX9_way_47 (Nat.le_of_ble_eq_true rfl) ?_
    show xT _ _ _ 49 [_, _, _, _, _, _, _, _, _] _ _ _
    have L : ∀ t, t ≤ T → xT G M_X9_way (xMQ G (xpi fun v I' J' => v = sp_way S a b i ∧ mIv I' S ∧ mfr I J I' J')) 49 [some (.ref (G.1 77)), some (.int a), some (.int b), some (.int i), some (.int (nI D)), some (.int (nI p)), some (.int tk), some (.int (nI k)), some (.int (nI t))] [] I2 J := by
      refine x_for (fun t ht IH => ?_)
      have htl : t < (mMarks S.2.1).length := by omega
      have hq : mkp S.2.1 r.length (mMarks S.2.1)[t] p < mK S.2.1 ^ r.length := mkp_lt h.2.1.1 hwh (mMarks_ok S.2.1 _ (List.getElem_mem htl))
      have hqv := d2 _ hq
      have e1 : oI (some (d + 1)) - 1 = nI d := nI_pred d
      refine xr_aload0 dX9_way_49 rfl ?_
      refine xr_getR dX9_way_50 fk_9_81 lay_77 rfl ?_
      refine xr_aload0 dX9_way_53 rfl ?_
      refine xr_getR dX9_way_54 fk_9_69 lay_77 rfl ?_
      refine xr_sip si_256 dX9_way_57 ?_
      refine xr_iload dX9_way_60 rfl ?_
      refine xr_imul dX9_way_62 ?_
      refine xr_iload dX9_way_63 rfl ?_
      show xT _ _ _ 65 _ _ _ _
      refine xr_iadd dX9_way_65 ?_
      refine xr_ialdv _ dX9_way_66 lay_96 (by (try simp only [k_0, k_1, k_2, k_3, k_4, k_5, k_8, k_16, k_34, k_40, k_200, k_201, k_256, k_512, nI_add, pk_mul]); first | done | rfl) (by omega) (by decide) (m96 t htl p hp) ?_
      refine xr_ialdv _ dX9_way_67 lay_100 rfl (by omega) (by decide) hqv ?_
      refine xr_aload0 dX9_way_68 rfl ?_
      refine xr_getR dX9_way_69 fk_9_81 lay_77 rfl ?_
      refine xr_iload dX9_way_72 rfl ?_
      refine xr_ialdv _ dX9_way_74 lay_100 rfl (by omega) (by decide) hpv ?_
      refine xr_ic1 dX9_way_75 ?_
      show xT _ _ _ 76 _ _ _ _
      refine xr_isub dX9_way_76 ?_
      rw [e1]
      have hiff : oI (dst S.2.1 r.length (mkp S.2.1 r.length (mMarks S.2.1)[t] p) g) = nI d ↔ isD S.2.1 r.length (mkp S.2.1 r.length (mMarks S.2.1)[t] p) g d := by
        rw [← dst_eq]
        cases hc : dst S.2.1 r.length (mkp S.2.1 r.length (mMarks S.2.1)[t] p) g with
        | none =>
          refine ⟨fun q => ?_, fun q => by cases q⟩
          exfalso
          exact nI_pos (n := d) (by omega) (by rw [← q]; decide)
        | some d' =>
          have hd' := hdl hq (dst_of hc)
          show nI d' = nI d ↔ _
          rw [nI_eq (by omega) (by omega)]
          exact ⟨fun q => by rw [q], fun q => Option.some.inj q⟩
      by_cases hTt : t = T
      · subst hTt
        rw [hTm] at hiff
        refine xr_icmp_eq 86 dX9_way_77 (by decide) (fun heq => ?_) (fun heq => ?_)
        rotate_left
        · rw [hTm] at heq
          exact absurd (hiff.mpr hTd) heq
        refine xr_aload0 dX9_way_86 rfl ?_
        refine xr_getR dX9_way_87 fk_9_39 lay_77 rfl ?_
        refine xr_iload dX9_way_90 rfl ?_
        refine xr_ialdv _ dX9_way_92 lay_86 rfl (by omega) (by decide) (t86 t htl) ?_
        refine xr_istore dX9_way_93 (Nat.le_of_ble_eq_true rfl) ?_
        show xT _ _ _ 95 [_, _, _, _, _, _, _, _, _] _ _ _
        refine xr_aload0 dX9_way_95 rfl ?_
        refine xr_getR dX9_way_96 fk_9_69 lay_77 rfl ?_
        refine xr_sip si_256 dX9_way_99 ?_
        show xT _ _ _ 102 _ _ _ _
        refine xr_iload dX9_way_102 rfl ?_
        refine xr_imul dX9_way_104 ?_
        refine xr_iload dX9_way_105 rfl ?_
        refine xr_iadd dX9_way_107 ?_
        refine xr_ialdv _ dX9_way_108 lay_96 (by (try simp only [k_0, k_1, k_2, k_3, k_4, k_5, k_8, k_16, k_34, k_40, k_200, k_201, k_256, k_512, nI_add, pk_mul]); first | done | rfl) (by omega) (by decide) (m96 t htl p hp) ?_
        refine xr_istore dX9_way_109 (Nat.le_of_ble_eq_true rfl) ?_
        show xT _ _ _ 111 [_, _, _, _, _, _, _, _, _] _ _ _
        refine xr_iinc dX9_way_111 rfl ii_1 (Nat.le_of_ble_eq_true rfl) ?_
        show xT _ _ _ 114 [_, _, _, _, _, _, _, _, _] _ _ _
        refine xr_goto 40 dX9_way_114 (by decide) ?_
        show xT _ _ _ 40 _ _ _ _
        rw [k_1, nI_add, hTm]
        exact xT.sub (fun j v hj => by
          match j with
          | 0 => exact hj
          | 1 => exact hj
          | 2 => exact hj
          | 3 => exact hj
          | 4 => exact hj
          | 5 => exact hj
          | 6 => exact hj
          | 7 => exact hj
          | 8 => cases hj
          | j + 9 => simp at hj) hnext
      · have htT : t < T := by omega
        refine xr_icmp_eq 86 dX9_way_77 (by decide) (fun heq => ?_) (fun heq => ?_)
        · exact absurd (hiff.mp heq) (hTmin t htl htT)
        refine xr_iinc dX9_way_80 rfl ii_1 (Nat.le_of_ble_eq_true rfl) ?_
        show xT _ _ _ 83 [_, _, _, _, _, _, _, _, _] _ _ _
        refine xr_goto 49 dX9_way_83 (by decide) ?_
        rw [k_1, nI_add]
        exact IH htT
    exact L 0 (Nat.zero_le _)
  -- all steps
  have L1 : ∀ j k p d (tk : Int32) (z8 : Option Value), k + j = w2n i → p < mK S.2.1 ^ r.length → isD S.2.1 r.length p g (d + 1) → j ≤ d → wayAt S.2.1 r.length g (w2n i) (plc (mK S.2.1) r) D = wayAt S.2.1 r.length g j p (d + 1) → xT G M_X9_way (xMQ G (xpi fun v I' J' => v = sp_way S a b i ∧ mIv I' S ∧ mfr I J I' J')) 40 [some (.ref (G.1 77)), some (.int a), some (.int b), some (.int i), some (.int (nI D)), some (.int (nI p)), some (.int tk), some (.int (nI k)), z8] [] I2 J := by
    intro j
    induction j with
    | zero =>
      intro k p d tk z8 hk hp hd hj hw
      refine stp p d k tk z8 hp hd (by omega) ?_
      refine xr_iload dX9_way_40 rfl ?_
      refine xr_iload3 dX9_way_42 rfl ?_
      rw [hii]
      refine xr_icmp_gt 117 dX9_way_43 (by decide) (fun hgt => ?_) (fun hgt => ?_)
      rotate_left
      · exact absurd (nI_lt (by omega) (by omega)) hgt
      rw [← hii]
      refine xr_iload dX9_way_117 rfl ?_
      refine xr_iret dX9_way_119 rfl rfl ⟨by rw [e, hw]; rfl, hI2, f12.fr (by decide) rfl⟩
    | succ j IH =>
      intro k p d tk z8 hk hp hd hj hw
      refine stp p d k tk z8 hp hd (by omega) ?_
      obtain ⟨T, hT, hTm, hTd, -⟩ := wm_at hd
      have hq : mkp S.2.1 r.length (wm S.2.1 r.length g p d) p < mK S.2.1 ^ r.length := mkp_lt h.2.1.1 hwh (by rw [← hTm]; exact mMarks_ok S.2.1 _ (List.getElem_mem hT))
      cases d with
      | zero => omega
      | succ d => exact IH (k + 1) _ d _ _ (by omega) hq hTd (by omega) (by rw [hw]; rfl)
  obtain ⟨D', rfl⟩ : ∃ D', D = D' + 1 := ⟨D - 1, by omega⟩
  refine xr_aload0 dX9_way_28 rfl ?_
  refine xr_getIv dX9_way_29 fk_9_252 lay_77 rfl z33' ?_
  refine xr_istore dX9_way_32 (Nat.le_of_ble_eq_true rfl) ?_
  show xT _ _ _ 34 [_, _, _, _, _, _, _, _, _] _ _ _
  refine xr_ic0 dX9_way_34 ?_
  refine xr_istore dX9_way_35 (Nat.le_of_ble_eq_true rfl) ?_
  show xT _ _ _ 37 [_, _, _, _, _, _, _, _, _] _ _ _
  refine xr_ic0 dX9_way_37 ?_
  refine xr_istore dX9_way_38 (Nat.le_of_ble_eq_true rfl) ?_
  show xT _ _ _ 40 [_, _, _, _, _, _, _, _, _] _ _ _
  exact L1 (w2n i) 0 (plc (mK S.2.1) r) D' 0 _ (by omega) hfl hDD (by omega) rfl
end M26
