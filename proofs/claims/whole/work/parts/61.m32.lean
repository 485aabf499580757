section M32
variable {G : xG} {I : xI} {J : xJ}
theorem mFl.cg {A T : List Nat} {I I' : xI} {M : xMac} {F hs : List (List Nat)} (f : mfx A T I I') (h : mFl I M F hs) (hA : 89 ∉ A ∧ 90 ∉ A ∧ 91 ∉ A ∧ 92 ∉ A ∧ 93 ∉ A ∧ 104 ∉ A) (hT : 21 ∉ T ∧ 22 ∉ T ∧ 41 ∉ T) : mFl I' M F hs := by
  obtain ⟨a1, a2, a3, a4, a5, ⟨l, b1, b2, ⟨c, c1⟩⟩, a6, a7, a8⟩ := h
  refine ⟨f.hp a1 ⟨hA.1, hA.2.1⟩ hT.1, a2, a3, fun k hk hk2 y hy => ?_, by rw [f.2 22 hT.2.1]; exact a5, ⟨l, b1, b2, ⟨c, by rw [f.1 93 hA.2.2.2.2.1 (by decide)]; exact c1⟩⟩, by rw [f.2 41 hT.2.2]; exact a6, a7, fun k hk => ?_⟩
  · rw [f.1 91 hA.2.2.1 (by decide), f.1 92 hA.2.2.2.1 (by decide)]; exact a4 k hk hk2 y hy
  · rw [f.1 104 hA.2.2.2.2.2 (by decide)]; exact a8 k hk
theorem c9_fallsAll {M : xMac} {F0 hs0 Sn0 : List (List Nat)} {d : Nat} (hd : d = 1 ∨ d = 2) (hMa : mMach I M) (hwh : mWhole M) (htk : mTk I M) (hF : mFl I M F0 hs0) (hHp : isHp M Sn0 hs0) : xCon G M_X9_fallsAll [.ref (G.1 77), .int (nI d)] I J (xpi fun v I' J' => v = b2 (fallGo M d 21 0 F0 Sn0).isSome ∧ (∀ F', fallGo M d 21 0 F0 Sn0 = some F' → ∃ hs', mFl I' M F' hs') ∧ mwx [8, 9, 10, 11] I I' ∧ mfx [83, 84, 88, 89, 90, 91, 92, 93, 94, 95, 104] [13, 14, 16, 21, 22, 41] I I' ∧ J = J') := by
  have hM := hMa.1
  have hN8 := hM.2.2.1
  have hK4 := hM.2.1
  have hK2 := hM.1
  have hml := mMarks_len M
  have hKd : mK M ^ d ≤ 16 := by
    rcases hd with rfl | rfl
    · rw [Nat.pow_one]; omega
    · calc mK M ^ 2 ≤ 4 ^ 2 := Nat.pow_le_pow_left hK4 2
        _ = 16 := by decide
  have L : ∀ f k F hs Sn I1 (z4 z5 : Option Value), k + f = 21 → k ≤ F.length → mFl I1 M F hs → isHp M Sn hs → mTk I1 M → fallGo M d f k F Sn = fallGo M d 21 0 F0 Sn0 → mwx [8, 9, 10, 11] I I1 → mfx [83, 84, 88, 89, 90, 91, 92, 93, 94, 95, 104] [13, 14, 16, 21, 22, 41] I I1 → xT G M_X9_fallsAll (xMQ G (xpi fun v I' J' => v = b2 (fallGo M d 21 0 F0 Sn0).isSome ∧ (∀ F', fallGo M d 21 0 F0 Sn0 = some F' → ∃ hs', mFl I' M F' hs') ∧ mwx [8, 9, 10, 11] I I' ∧ mfx [83, 84, 88, 89, 90, 91, 92, 93, 94, 95, 104] [13, 14, 16, 21, 22, 41] I I' ∧ J = J')) 24 [some (.ref (G.1 77)), some (.int (nI d)), some (.int (nI (mK M ^ d))), some (.int (nI k)), z4, z5] [] I1 J := by
    intro f
    induction f with
    | zero =>
      intro k F hs Sn I1 z4 z5 hkf hk hFl
      have := hFl.2.2.2.2.2.2.2.1
      omega
    | succ f IH =>
      intro k F hs Sn I1 z4 z5 hkf hk hFl hHp1 tk1 hgo x1 f1
      have h20 := hFl.2.2.2.2.2.2.2.1
      refine xr_iload3 dX9_fallsAll_24 rfl ?_
      refine xr_aload0 dX9_fallsAll_25 rfl ?_
      refine xr_getIv dX9_fallsAll_26 fk_9_299 lay_77 rfl hFl.2.2.2.2.2.2.1 ?_
      refine xr_icmp_ge 169 dX9_fallsAll_29 (by decide) (fun hc => ?_) (fun hc => ?_)
      · have hkk : F.length ≤ k := nle hc
        rw [fallGo_end hkk] at hgo
        refine xr_ic1 dX9_fallsAll_169 ?_
        refine xr_zret dX9_fallsAll_170 rfl rfl (by simp) ⟨by rw [← hgo]; rfl, fun F' h => by rw [← hgo] at h; cases h; exact ⟨hs, hFl⟩, x1, f1, rfl⟩
      have hkl := nlt hc
      have hat : F[k]? = some F[k] := List.getElem?_eq_getElem hkl
      generalize hw : F[k] = w at hat
      -- where all is over
      have over : (longP M w = true ∨ ∃ t p, t < (mMarks M).length ∧ p ≤ mK M ^ d ∧ fallNo M ((candP M d w t p).foldl (addU M) F) (Sn ++ candP M d w t p)) → (0 : Int32) = b2 (fallGo M d 21 0 F0 Sn0).isSome ∧ ∀ F', fallGo M d 21 0 F0 Sn0 = some F' → ∀ (P : Prop), P := by
        intro h
        rw [fallGo_none hat h] at hgo
        rw [← hgo]
        exact ⟨rfl, fun F' q => by cases q⟩
      refine xr_ic0 dX9_fallsAll_32 ?_
      refine xr_istore dX9_fallsAll_33 (Nat.le_of_ble_eq_true rfl) ?_
      show xT _ _ _ 35 [_, _, _, _, _, _] _ _ _
      have L2 : ∀ t, t ≤ (mMarks M).length → ∀ I2 hs2 (z5 : Option Value), mFl I2 M ((candP M d w t 0).foldl (addU M) F) hs2 → isHp M (Sn ++ candP M d w t 0) hs2 → mTk I2 M → (∀ t' (ht' : t' < (mMarks M).length), t' < t → (wpush w (mMarks M)[t']).length ≤ 16) → mwx [8, 9, 10, 11] I I2 → mfx [83, 84, 88, 89, 90, 91, 92, 93, 94, 95, 104] [13, 14, 16, 21, 22, 41] I I2 → xT G M_X9_fallsAll (xMQ G (xpi fun v I' J' => v = b2 (fallGo M d 21 0 F0 Sn0).isSome ∧ (∀ F', fallGo M d 21 0 F0 Sn0 = some F' → ∃ hs', mFl I' M F' hs') ∧ mwx [8, 9, 10, 11] I I' ∧ mfx [83, 84, 88, 89, 90, 91, 92, 93, 94, 95, 104] [13, 14, 16, 21, 22, 41] I I' ∧ J = J')) 35 [some (.ref (G.1 77)), some (.int (nI d)), some (.int (nI (mK M ^ d))), some (.int (nI k)), some (.int (nI t)), z5] [] I2 J := by
        refine x_for (fun t ht IH2 I2 hs2 z5 hFl2 hHp2 tk2 hok x2 f2 => ?_)
        refine xr_iload dX9_fallsAll_35 rfl ?_
        refine xr_aload0 dX9_fallsAll_37 rfl ?_
        refine xr_getIv dX9_fallsAll_38 fk_9_127 lay_77 rfl tk2.1 ?_
        refine xr_icmp_ge 163 dX9_fallsAll_41 (by decide) (fun hc2 => ?_) (fun hc2 => ?_)
        · have htt : t = (mMarks M).length := by have := nle hc2; omega
          subst htt
          rw [candP_all] at hFl2 hHp2
          have h20' := hFl2.2.2.2.2.2.2.2.1
          obtain ⟨e, he⟩ := addU_fold M (cands M d w) F
          refine xr_iinc dX9_fallsAll_163 rfl ii_1 (Nat.le_of_ble_eq_true rfl) ?_
          show xT _ _ _ 166 [_, _, _, _, _, _] _ _ _
          refine xr_goto 24 dX9_fallsAll_166 (by decide) ?_
          rw [k_1, nI_add]
          refine IH (k + 1) _ hs2 _ I2 _ _ (by omega) (by rw [he, List.length_append]; omega) hFl2 hHp2 tk2 ?_ x2 f2
          rw [← hgo, fallGo_go hat (fun t' ht' => hok t' ht' ht') ⟨hs2, hHp2, hFl2.2.2.1⟩ h20']
        · have htl := nlt hc2
          have IH2 := IH2 htl
          have hmo := mMarks_ok M _ (List.getElem_mem htl)
          have hm16 : (mMarks M)[t] < 16 := by have := hmo.1; omega
          -- the word at its place
          have wat : ∀ I3 (cs : List (List Nat)) hs3, mFl I3 M (cs.foldl (addU M) F) hs3 → ∃ j, I3 104 k = nI j ∧ hs3[j]? = some w ∧ j < hs3.length := by
            intro I3 cs hs3 h3
            obtain ⟨e, he⟩ := addU_fold M cs F
            have hkl3 : k < (cs.foldl (addU M) F).length := by rw [he, List.length_append]; omega
            obtain ⟨j, j1, j2⟩ := h3.2.2.2.2.2.2.2.2 k hkl3
            have e1 : (cs.foldl (addU M) F)[k] = w := by
              have : (cs.foldl (addU M) F)[k]? = some w := by rw [he, List.getElem?_append_left hkl]; exact hat
              exact (List.getElem?_eq_some_iff.mp this).2
            rw [e1] at j2
            exact ⟨j, j1, j2, (List.getElem?_eq_some_iff.mp j2).1⟩
          obtain ⟨j, j1, j2, hj⟩ := wat I2 _ hs2 hFl2
          have hl2 := hFl2.2.2.1
          have hje := (List.getElem?_eq_some_iff.mp j2).2
          have wg : wGood M w := hFl2.2.1.2 w (List.mem_of_getElem? j2)
          have hp1 := wpush_len w (mMarks M)[t]
          have wg0 := wg.1
          refine xr_aload0 dX9_fallsAll_44 rfl ?_
          refine xr_aload0 dX9_fallsAll_45 rfl ?_
          refine xr_getR dX9_fallsAll_46 fk_9_94 lay_77 rfl ?_
          refine xr_iload3 dX9_fallsAll_49 rfl ?_
          refine xr_ialdv _ dX9_fallsAll_50 lay_104 rfl (by omega) (by decide) j1 ?_
          refine xr_bip bi_8 dX9_fallsAll_51 ?_
          refine xr_cVv [_, _] dX9_fallsAll_53 (xcv_of cf_X9_fromHeap ml_9_188 (by decide)) rfl lay_77 rfl rfl rfl (Nat.le_of_ble_eq_true rfl) (c9_fromHeap hFl2.1 hj (by decide)) (fun I3 J3 hc => ?_)
          obtain ⟨d3, x3, f3, rfl⟩ := hc
          rw [hje] at d3
          have tk3 : I3 86 t = tok (mMarks M)[t] := by
            rw [f3.1 86 (by decide) (by decide)]
            have := tk2.2 t htl
            rw [Nat.zero_add] at this
            exact this
          refine xr_aload0 dX9_fallsAll_56 rfl ?_
          refine xr_bip bi_8 dX9_fallsAll_57 ?_
          refine xr_aload0 dX9_fallsAll_59 rfl ?_
          refine xr_getR dX9_fallsAll_60 fk_9_39 lay_77 rfl ?_
          refine xr_iload dX9_fallsAll_63 rfl ?_
          refine xr_ialdv _ dX9_fallsAll_65 lay_86 rfl (by omega) (by decide) tk3 ?_
          refine xr_cVv [_, _] dX9_fallsAll_66 (xcv_of cf_X9_add ml_9_144 (by decide)) rfl lay_77 rfl rfl rfl (Nat.le_of_ble_eq_true rfl) (c9_add (by decide) d3 (by omega) hm16 (fun q hq => wg.2.2.lt hN8 hq)) (fun I4 J4 hc => ?_)
          obtain ⟨d4, x4, f4, rfl⟩ := hc
          have f24 : mfx [83, 84] [] I2 I4 := f3.tr f4
          have x24 : mwx [8, 9, 10, 11] I I4 := (x2.tr (x3.mono (by simp))).tr (x4.mono (by simp))
          have fI4 : mfx [83, 84, 88, 89, 90, 91, 92, 93, 94, 95, 104] [13, 14, 16, 21, 22, 41] I I4 := f2.tr (f24.mono (by simp) (by simp))
          refine xr_aload0 dX9_fallsAll_69 rfl ?_
          refine xr_getR dX9_fallsAll_70 fk_9_32 lay_77 rfl ?_
          refine xr_bip bi_8 dX9_fallsAll_73 ?_
          refine xr_ialdv 8 dX9_fallsAll_75 lay_84 (by (try simp only [k_0, k_1, k_2, k_3, k_4, k_5, k_8, k_16, k_34, k_40, k_200, k_201, k_256, k_512, nI_add, pk_mul]); first | done | rfl) (by omega) (by decide) d4.1 ?_
          refine xr_bip bi_16 dX9_fallsAll_76 ?_
          refine xr_icmp_le 83 dX9_fallsAll_78 (by decide) (fun hlen => ?_) (fun hlen => ?_)
          rotate_left
          · have hbig : 16 < (wpush w (mMarks M)[t]).length := Nat.lt_of_not_le (fun q => hlen ((nI_leI (a := (wpush w (mMarks M)[t]).length) (b := 16) (by omega) (by decide)).mpr q))
            obtain ⟨o1, o2⟩ := over (Or.inl (List.any_eq_true.mpr ⟨(mMarks M)[t], List.getElem_mem htl, by simpa using hbig⟩))
            refine xr_ic0 dX9_fallsAll_81 ?_
            refine xr_zret dX9_fallsAll_82 rfl rfl (by simp) ⟨o1, fun F' h => o2 F' h _, x24, fI4, rfl⟩
          have hle16 : (wpush w (mMarks M)[t]).length ≤ 16 := (nI_leI (a := (wpush w (mMarks M)[t]).length) (b := 16) (by omega) (by decide)).mp hlen
          refine xr_ic0 dX9_fallsAll_83 ?_
          refine xr_istore dX9_fallsAll_84 (Nat.le_of_ble_eq_true rfl) ?_
          show xT _ _ _ 86 [_, _, _, _, _, _] _ _ _
          have L3 : ∀ p, p ≤ mK M ^ d → ∀ I5 hs5, mFl I5 M ((candP M d w t p).foldl (addU M) F) hs5 → isHp M (Sn ++ candP M d w t p) hs5 → mTk I5 M → mwx [8, 9, 10, 11] I I5 → mfx [83, 84, 88, 89, 90, 91, 92, 93, 94, 95, 104] [13, 14, 16, 21, 22, 41] I I5 → xT G M_X9_fallsAll (xMQ G (xpi fun v I' J' => v = b2 (fallGo M d 21 0 F0 Sn0).isSome ∧ (∀ F', fallGo M d 21 0 F0 Sn0 = some F' → ∃ hs', mFl I' M F' hs') ∧ mwx [8, 9, 10, 11] I I' ∧ mfx [83, 84, 88, 89, 90, 91, 92, 93, 94, 95, 104] [13, 14, 16, 21, 22, 41] I I' ∧ J = J')) 86 [some (.ref (G.1 77)), some (.int (nI d)), some (.int (nI (mK M ^ d))), some (.int (nI k)), some (.int (nI t)), some (.int (nI p))] [] I5 J := by
            refine x_for (fun p hp IH3 I5 hs5 hFl5 hHp5 tk5 x5 f5 => ?_)
            refine xr_iload dX9_fallsAll_86 rfl ?_
            refine xr_iload2 dX9_fallsAll_88 rfl ?_
            refine xr_icmp_ge 157 dX9_fallsAll_89 (by decide) (fun hc3 => ?_) (fun hc3 => ?_)
            · have hpp : p = mK M ^ d := by have := nle hc3; omega
              subst hpp
              rw [candP_end htl] at hFl5 hHp5
              refine xr_iinc dX9_fallsAll_157 rfl ii_1 (Nat.le_of_ble_eq_true rfl) ?_
              show xT _ _ _ 160 [_, _, _, _, _, _] _ _ _
              refine xr_goto 35 dX9_fallsAll_160 (by decide) ?_
              rw [k_1, nI_add]
              exact IH2 I5 hs5 _ hFl5 hHp5 tk5 (fun t' ht' h => by
                by_cases e : t' = t
                · subst e; exact hle16
                · exact hok t' ht' (by omega)) x5 f5
            · have hpl := nlt hc3
              have IH3 := IH3 hpl
              obtain ⟨j, j1, j2, hj⟩ := wat I5 _ hs5 hFl5
              have hl5 := hFl5.2.2.1
              have hje := (List.getElem?_eq_some_iff.mp j2).2
              refine xr_aload0 dX9_fallsAll_92 rfl ?_
              refine xr_aload0 dX9_fallsAll_93 rfl ?_
              refine xr_getR dX9_fallsAll_94 fk_9_94 lay_77 rfl ?_
              refine xr_iload3 dX9_fallsAll_97 rfl ?_
              refine xr_ialdv _ dX9_fallsAll_98 lay_104 rfl (by omega) (by decide) j1 ?_
              refine xr_bip bi_8 dX9_fallsAll_99 ?_
              refine xr_cVv [_, _] dX9_fallsAll_101 (xcv_of cf_X9_fromHeap ml_9_188 (by decide)) rfl lay_77 rfl rfl rfl (Nat.le_of_ble_eq_true rfl) (c9_fromHeap hFl5.1 hj (by decide)) (fun I6 J6 hc => ?_)
              obtain ⟨d6, x6, f6, rfl⟩ := hc
              rw [hje] at d6
              have tk6 : I6 86 t = tok (mMarks M)[t] := by
                rw [f6.1 86 (by decide) (by decide)]
                have := tk5.2 t htl
                rw [Nat.zero_add] at this
                exact this
              refine xr_aload0 dX9_fallsAll_104 rfl ?_
              refine xr_bip bi_8 dX9_fallsAll_105 ?_
              refine xr_aload0 dX9_fallsAll_107 rfl ?_
              refine xr_getR dX9_fallsAll_108 fk_9_39 lay_77 rfl ?_
              refine xr_iload dX9_fallsAll_111 rfl ?_
              refine xr_ialdv _ dX9_fallsAll_113 lay_86 rfl (by omega) (by decide) tk6 ?_
              refine xr_cVv [_, _] dX9_fallsAll_114 (xcv_of cf_X9_add ml_9_144 (by decide)) rfl lay_77 rfl rfl rfl (Nat.le_of_ble_eq_true rfl) (c9_add (by decide) d6 (by omega) hm16 (fun q hq => wg.2.2.lt hN8 hq)) (fun I7 J7 hc => ?_)
              obtain ⟨d7, x7, f7, rfl⟩ := hc
              have fI7 : mfx [83, 84, 88, 89, 90, 91, 92, 93, 94, 95, 104] [13, 14, 16, 21, 22, 41] I I7 := f5.tr ((f6.tr f7).mono (by simp) (by simp))
              refine xr_aload0 dX9_fallsAll_117 rfl ?_
              refine xr_iload dX9_fallsAll_118 rfl ?_
              refine xr_iload1 dX9_fallsAll_120 rfl ?_
              refine xr_cVv [_, _] dX9_fallsAll_121 (xcv_of cf_X9_rowAt ml_9_229 (by decide)) rfl lay_77 rfl rfl rfl (Nat.le_of_ble_eq_true rfl) (c9_rowAt (fI7.mach hMa (by decide) (by decide)) (by omega) (by omega)) (fun I8 J8 hc => ?_)
              obtain ⟨r8, f8, rfl⟩ := hc
              have fI8 : mfx [83, 84, 88, 89, 90, 91, 92, 93, 94, 95, 104] [13, 14, 16, 21, 22, 41] I I8 := fI7.tr (f8.mono (by simp) (by simp))
              have d8 : mWd I8 8 (wpush w (mMarks M)[t]) := ⟨by rw [f8.1 84 (by decide) (by decide)]; exact d7.1, by rw [f8.1 83 (by decide) (by decide)]; exact d7.2⟩
              have hrok : rOk M (rOfP (mK M) d p) := rOfP_lt (by omega) d p
              refine xr_aload0 dX9_fallsAll_124 rfl ?_
              refine xr_bip bi_8 dX9_fallsAll_125 ?_
              refine xr_bip bi_9 dX9_fallsAll_127 ?_
              refine xr_cVv [_, _] dX9_fallsAll_129 (xcv_of cf_X9_partAtRow ml_9_175 (by decide)) rfl lay_77 rfl rfl rfl (Nat.le_of_ble_eq_true rfl) (c9_partAtRow (fI8.mach hMa (by decide) (by decide)) hwh (by decide) (by decide) d8 (wg.2.2.push hmo) (wg.2.1.push _) (by omega) r8 (by rw [rOfP_len]; omega) hrok) (fun I9 J9 hc => ?_)
              obtain ⟨d9, x9, f9, rfl⟩ := hc
              obtain ⟨pg1, pg2, pg3⟩ := wparts_good hM hwh (wg.2.2.push hmo) (wg.2.1.push (mMarks M)[t]) (rOfP (mK M) d p) hrok
              have fI9 : mfx [83, 84, 88, 89, 90, 91, 92, 93, 94, 95, 104] [13, 14, 16, 21, 22, 41] I I9 := fI8.tr (f9.mono (by simp) (by simp))
              refine xr_aload0 dX9_fallsAll_132 rfl ?_
              refine xr_bip bi_8 dX9_fallsAll_133 ?_
              refine xr_bip bi_9 dX9_fallsAll_135 ?_
              refine xr_cVv [_, _] dX9_fallsAll_137 (xcv_of cf_X9_copy ml_9_140 (by decide)) rfl lay_77 rfl rfl rfl (Nat.le_of_ble_eq_true rfl) (c9_copy (by decide) (by decide) d9 (by omega)) (fun I10 J10 hc => ?_)
              obtain ⟨d10, x10, f10, rfl⟩ := hc
              have fI10 : mfx [83, 84, 88, 89, 90, 91, 92, 93, 94, 95, 104] [13, 14, 16, 21, 22, 41] I I10 := fI9.tr (f10.mono (by simp) (by simp))
              have f5x : mfx [83, 84, 88] [13, 14, 16] I5 I10 := ((((f6.mono (by simp) (by simp)).tr (f7.mono (by simp) (by simp))).tr (f8.mono (by simp) (by simp))).tr (f9.mono (by simp) (by simp))).tr (f10.mono (by simp) (by simp))
              have x5x : mwx [8, 9, 10, 11] I I10 := ((((x5.tr (x6.mono (by simp))).tr (x7.mono (by simp))).tr (mwx.of (f8.1 83 (by decide) (by decide)) (f8.1 84 (by decide) (by decide)))).tr (x9.mono (by simp))).tr (x10.mono (by simp))
              have tk10 : mTk I10 M := ⟨by rw [f5x.2 11 (by decide)]; exact tk5.1, by rw [f5x.1 86 (by decide) (by decide)]; exact tk5.2⟩
              refine xr_aload0 dX9_fallsAll_140 rfl ?_
              refine xr_bip bi_8 dX9_fallsAll_141 ?_
              refine xr_cVi [_] dX9_fallsAll_143 (xcv_of cf_X9_falls ml_9_302 (by decide)) rfl lay_77 rfl rfl rfl (Nat.le_of_ble_eq_true rfl) (c9_falls (fI10.mach hMa (by decide) (by decide)) hwh (hFl5.cg f5x (by decide) (by decide)) hHp5 d10 ⟨by omega, pg2, pg1⟩) (fun v I11 J11 hc => ?_)
              obtain ⟨⟨ok, rfl, hyes, hno⟩, x11, f11, rfl⟩ := hc
              have estep : candP M d w t (p + 1) = candP M d w t p ++ [wparts M (wpush w (mMarks M)[t]) (rOfP (mK M) d p)] := by rw [candP_step, marks_getD htl]
              have x5y : mwx [8, 9, 10, 11] I I11 := x5x.tr (x11.mono (by simp))
              have fI11 : mfx [83, 84, 88, 89, 90, 91, 92, 93, 94, 95, 104] [13, 14, 16, 21, 22, 41] I I11 := fI10.tr (f11.mono (by simp) (by simp))
              refine xr_if_ne 151 dX9_fallsAll_146 (by decide) (fun hok' => ?_) (fun hok' => ?_)
              · have hok' : ok = true := by
                  cases ok with
                  | true => rfl
                  | false => exact absurd rfl hok'
                obtain ⟨hs6, hFl6, hHp6⟩ := hyes hok'
                refine xr_iinc dX9_fallsAll_151 rfl ii_1 (Nat.le_of_ble_eq_true rfl) ?_
                show xT _ _ _ 154 [_, _, _, _, _, _] _ _ _
                refine xr_goto 86 dX9_fallsAll_154 (by decide) ?_
                rw [k_1, nI_add]
                refine IH3 I11 hs6 ?_ ?_ ⟨by rw [f11.2 11 (by decide)]; exact tk10.1, by rw [f11.1 86 (by decide) (by decide)]; exact tk10.2⟩ x5y fI11
                · rw [estep, List.foldl_append]; exact hFl6
                · rw [estep, ← List.append_assoc]; exact hHp6
              · have hok' : ok = false := by
                  cases ok with
                  | false => rfl
                  | true => exact absurd hok' (by decide)
                obtain ⟨o1, o2⟩ := over (Or.inr ⟨t, p + 1, htl, hpl, by
                  have := hno hok'
                  rw [estep, List.foldl_append, ← List.append_assoc]
                  exact this⟩)
                refine xr_ic0 dX9_fallsAll_149 ?_
                refine xr_zret dX9_fallsAll_150 rfl rfl (by simp) ⟨o1, fun F' h => o2 F' h _, x5y, fI11, rfl⟩
          exact L3 0 (Nat.zero_le _) I4 hs2 (hFl2.cg f24 (by decide) (by decide)) hHp2 ⟨by rw [f24.2 11 (by decide)]; exact tk2.1, by rw [f24.1 86 (by decide) (by decide)]; exact tk2.2⟩ x24 fI4
      exact L2 0 (Nat.zero_le _) I1 hs _ (by rw [candP_0]; exact hFl) (by rw [candP_0, List.append_nil]; exact hHp1) tk1 (fun t' ht' h => by omega) x1 f1
  have start : ∀ (z2 z3 z4 z5 : Option Value), xT G M_X9_fallsAll (xMQ G (xpi fun v I' J' => v = b2 (fallGo M d 21 0 F0 Sn0).isSome ∧ (∀ F', fallGo M d 21 0 F0 Sn0 = some F' → ∃ hs', mFl I' M F' hs') ∧ mwx [8, 9, 10, 11] I I' ∧ mfx [83, 84, 88, 89, 90, 91, 92, 93, 94, 95, 104] [13, 14, 16, 21, 22, 41] I I' ∧ J = J')) 21 [some (.ref (G.1 77)), some (.int (nI d)), z2, z3, z4, z5] [.int (nI (mK M ^ d))] I J := by
    intro z2 z3 z4 z5
    refine xr_istore2 dX9_fallsAll_21 (Nat.le_of_ble_eq_true rfl) ?_
    show xT _ _ _ 22 [_, _, _, _, _, _] _ _ _
    refine xr_ic0 dX9_fallsAll_22 ?_
    refine xr_istore3 dX9_fallsAll_23 (Nat.le_of_ble_eq_true rfl) ?_
    show xT _ _ _ 24 [_, _, _, _, _, _] _ _ _
    exact L 21 0 F0 hs0 Sn0 I _ _ (by omega) (Nat.zero_le _) hF hHp htk rfl mwx.rf mfx.rf
  refine x_ent (by decide) (Nat.le_of_ble_eq_true rfl) rfl ?_
  show xT _ _ _ 0 [_, _, _, _, _, _] _ _ _
  refine xr_iload1 dX9_fallsAll_0 rfl ?_
  refine xr_ic1 dX9_fallsAll_1 ?_
  refine xr_icmp_ne 12 dX9_fallsAll_2 (by decide) (fun hc => ?_) (fun hc => ?_)
  rotate_left
  · have hd1 : d = 1 := (nI_eq (a := d) (b := 1) (by omega) (by decide)).mp hc
    refine xr_aload0 dX9_fallsAll_5 rfl ?_
    refine xr_getIv dX9_fallsAll_6 fk_9_19 lay_77 rfl hMa.2.1 ?_
    refine xr_goto 21 dX9_fallsAll_9 (by decide) ?_
    have := start none none none none
    rw [hd1, Nat.pow_one] at this
    rw [hd1]
    exact this
  · have hd2 : d = 2 := by
      rcases hd with h | h
      · rw [h] at hc; exact absurd rfl hc
      · exact h
    refine xr_aload0 dX9_fallsAll_12 rfl ?_
    refine xr_getIv dX9_fallsAll_13 fk_9_19 lay_77 rfl hMa.2.1 ?_
    refine xr_aload0 dX9_fallsAll_16 rfl ?_
    refine xr_getIv dX9_fallsAll_17 fk_9_19 lay_77 rfl hMa.2.1 ?_
    refine xr_imul dX9_fallsAll_20 ?_
    have := start none none none none
    rw [hd2, Nat.pow_two, ← pk_mul] at this
    rw [hd2]
    exact this
end M32
