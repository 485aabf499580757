section C26
variable {G : xG} {I : xI} {J : xJ}
theorem c2_build {M : xMac} (hm : cMc I M) (hwh : mWhole M) {n : Nat} (hn : mK M ^ n ≤ 256) (hlv : cLv I M) : xCon G M_X2_build [.ref (G.1 27), .ref (G.1 21), .int (nI n)] I J (xpv fun I' J' => cLv I' M ∧ (∃ bt, n < bt ∧ cTb I' M bt) ∧ (∀ a, a ≠ 27 → a ≠ 28 → a ≠ 29 → a ≠ 30 → I' a = I a) ∧ J = J') := by
  have hM := hm.1.1
  have hK2 := hM.1
  have hK4 := hM.2.1
  have hN8 := hM.2.2.1
  have hn8 := lvl_8 hK2 hn
  have hml := mMarks_len M
  have mc1 : ∀ {I1 : xI}, (∀ a, a ≠ 27 → a ≠ 28 → a ≠ 29 → a ≠ 30 → I1 a = I a) → cMc I1 M := fun e1 => hm.cg (fun a h1 h2 => e1 a (by omega) (by omega) (by omega) (by omega))
  have L : ∀ f j, j + f = 9 → ∀ I1 (z4 z5 : Option Value), 1 ≤ j → (∀ a, a ≠ 27 → a ≠ 28 → a ≠ 29 → a ≠ 30 → I1 a = I a) → I1 27 7 = nI j → (∀ i, i < j → mK M ^ i ≤ 256) → cTb I1 M j → xT G M_X2_build (xMQ G (xpv fun I' J' => cLv I' M ∧ (∃ bt, n < bt ∧ cTb I' M bt) ∧ (∀ a, a ≠ 27 → a ≠ 28 → a ≠ 29 → a ≠ 30 → I' a = I a) ∧ J = J')) 56 [some (.ref (G.1 27)), some (.ref (G.1 21)), some (.int (nI n)), some (.int (nI j)), z4, z5] [] I1 J := by
    intro f
    induction f with
    | zero =>
      intro j hj I1 z4 z5 hj1 e1 k1 p1 t1
      refine xr_iload3 dX2_build_56 rfl ?_
      refine xr_iload2 dX2_build_57 rfl ?_
      refine xr_icmp_gt 173 dX2_build_58 (by decide) (fun hgt => ?_) (fun hgt => ?_)
      rotate_left
      · have := nnlt hgt; omega
      have hgt := nltl hgt
      refine xr_vret dX2_build_173 rfl rfl ⟨⟨j, k1, by omega, p1, t1⟩, ⟨j, hgt, t1⟩, e1, rfl⟩
    | succ f IH =>
      intro j hj I1 z4 z5 hj1 e1 k1 p1 t1
      refine xr_iload3 dX2_build_56 rfl ?_
      refine xr_iload2 dX2_build_57 rfl ?_
      refine xr_icmp_gt 173 dX2_build_58 (by decide) (fun hgt => ?_) (fun hgt => ?_)
      · have hgt := nltl hgt
        refine xr_vret dX2_build_173 rfl rfl ⟨⟨j, k1, by omega, p1, t1⟩, ⟨j, hgt, t1⟩, e1, rfl⟩
      have hle := nnlt hgt
      refine xr_iload3 dX2_build_61 rfl ?_
      refine xr_bip bi_9 dX2_build_62 ?_
      refine xr_icmp_ge 173 dX2_build_64 (by decide) (fun hge => ?_) (fun hge => ?_)
      · have := nle (b := 9) hge; omega
      have IH := IH (j + 1) (by omega)
      obtain ⟨i, rfl⟩ : ∃ i, j = i + 1 := ⟨j - 1, by omega⟩
      have hpj : mK M ^ (i + 1) ≤ 256 := Nat.le_trans (Nat.pow_le_pow_right (by omega) hle) hn
      obtain ⟨u1, u2, u3⟩ := t1 i (by omega)
      have m1 := mc1 e1
      have hpi : mK M ^ i ≤ 256 := p1 i (by omega)
      have hpk : mK M ^ (i + 1) = mK M ^ i * mK M := Nat.pow_succ _ _
      have hs0 := sK_lt hK2 i
      have hs1 := sK_lt hK2 (i + 1)
      refine xr_aload0 dX2_build_67 rfl ?_
      refine xr_getR dX2_build_68 fk_2_15 lay_27 rfl ?_
      refine xr_iload3 dX2_build_71 rfl ?_
      refine xr_aload0 dX2_build_72 rfl ?_
      refine xr_getR dX2_build_73 fk_2_15 lay_27 rfl ?_
      refine xr_iload3 dX2_build_76 rfl ?_
      refine xr_ic1 dX2_build_77 ?_
      refine xr_isub dX2_build_78 ?_
      show xT _ _ _ 79 _ _ _ _
      rw [k_1, pk_sub (by omega), Nat.add_sub_cancel]
      refine xr_ialdv i dX2_build_79 lay_29 rfl (by omega) (by decide) u1 ?_
      refine xr_aload1 dX2_build_80 rfl ?_
      refine xr_getIv dX2_build_81 fk_2_43 lay_21 rfl m1.1.2.1 ?_
      refine xr_imul dX2_build_84 ?_
      rw [pk_mul, ← hpk]
      refine xr_iast (i + 1) dX2_build_85 lay_29 rfl (by omega) (by decide) ?_
      generalize hI2 : va_up I1 29 (upd (I1 29) (i + 1) (nI (mK M ^ (i + 1)))) = I2
      have v30 : I2 30 i = nI (sK (mK M) i) := by rw [← hI2, va_up_ne _ _ (by decide)]; exact u2
      have v29 : I2 29 i = nI (mK M ^ i) := by rw [← hI2, up_same, upd_ne _ _ (by omega)]; exact u1
      refine xr_aload0 dX2_build_86 rfl ?_
      refine xr_getR dX2_build_87 fk_2_18 lay_27 rfl ?_
      refine xr_iload3 dX2_build_90 rfl ?_
      refine xr_aload0 dX2_build_91 rfl ?_
      refine xr_getR dX2_build_92 fk_2_18 lay_27 rfl ?_
      refine xr_iload3 dX2_build_95 rfl ?_
      refine xr_ic1 dX2_build_96 ?_
      refine xr_isub dX2_build_97 ?_
      show xT _ _ _ 98 _ _ _ _
      rw [k_1, pk_sub (by omega), Nat.add_sub_cancel]
      refine xr_ialdv i dX2_build_98 lay_30 rfl (by omega) (by decide) v30 ?_
      refine xr_aload0 dX2_build_99 rfl ?_
      refine xr_getR dX2_build_100 fk_2_15 lay_27 rfl ?_
      refine xr_iload3 dX2_build_103 rfl ?_
      refine xr_ic1 dX2_build_104 ?_
      refine xr_isub dX2_build_105 ?_
      rw [k_1, pk_sub (by omega), Nat.add_sub_cancel]
      refine xr_ialdv i dX2_build_106 lay_29 rfl (by omega) (by decide) v29 ?_
      refine xr_iadd dX2_build_107 ?_
      rw [nI_add, show sK (mK M) i + mK M ^ i = sK (mK M) (i + 1) from rfl]
      refine xr_iast (i + 1) dX2_build_108 lay_30 rfl (by omega) (by decide) ?_
      generalize hI3 : va_up I2 30 (upd (I2 30) (i + 1) (nI (sK (mK M) (i + 1)))) = I3
      have eo3 : ∀ a, a ≠ 29 → a ≠ 30 → I3 a = I1 a := fun a h1 h2 => by rw [← hI3, va_up_ne _ _ h2, ← hI2, va_up_ne _ _ h1]
      have e29 : I3 29 = upd (I1 29) (i + 1) (nI (mK M ^ (i + 1))) := by rw [← hI3, va_up_ne _ _ (by decide), ← hI2, up_same]
      have e30 : I3 30 = upd (I1 30) (i + 1) (nI (sK (mK M) (i + 1))) := by rw [← hI3, up_same, ← hI2, va_up_ne _ _ (by decide)]
      -- what stands while the level is built
      have Lm : ∀ k, k ≤ (mMarks M).length → ∀ I4 (z5 : Option Value), (∀ a, a ≠ 28 → I4 a = I3 a) → (∀ j, j ≤ i → ∀ m ∈ mMarks M, ∀ p, p < mK M ^ j → I4 28 (512 * m + sK (mK M) j + p) = nI (mkp M j m p)) → (∀ k' (hk : k' < (mMarks M).length), k' < k → ∀ p, p < mK M ^ (i + 1) → I4 28 (512 * (mMarks M)[k'] + sK (mK M) (i + 1) + p) = nI (mkp M (i + 1) (mMarks M)[k'] p)) → xT G M_X2_build (xMQ G (xpv fun I' J' => cLv I' M ∧ (∃ bt, n < bt ∧ cTb I' M bt) ∧ (∀ a, a ≠ 27 → a ≠ 28 → a ≠ 29 → a ≠ 30 → I' a = I a) ∧ J = J')) 112 [some (.ref (G.1 27)), some (.ref (G.1 21)), some (.int (nI n)), some (.int (nI (i + 1))), some (.int (nI k)), z5] [] I4 J := by
        refine x_for (fun k hk IHk I4 z5 e4 o4 d4 => ?_)
        have e04 : ∀ a, a ≠ 27 → a ≠ 28 → a ≠ 29 → a ≠ 30 → I4 a = I a := fun a h1 h2 h3 h4 => by rw [e4 a h2, eo3 a h3 h4]; exact e1 a h1 h2 h3 h4
        have m4 := mc1 e04
        have v30' : I4 30 (i + 1) = nI (sK (mK M) (i + 1)) := by rw [e4 30 (by decide), e30, upd_same]
        have tb4 : ∀ {I5 : xI}, (∀ a, a ≠ 28 → I5 a = I4 a) → (∀ j, j ≤ i → ∀ m ∈ mMarks M, ∀ p, p < mK M ^ j → I5 28 (512 * m + sK (mK M) j + p) = nI (mkp M j m p)) → cTb I5 M (i + 1) := fun e5 o5 j hj => by
          obtain ⟨q1, q2, q3⟩ := t1 j hj
          refine ⟨?_, ?_, o5 j (by omega)⟩
          · rw [e5 29 (by decide), e4 29 (by decide), e29, upd_ne _ _ (by omega)]; exact q1
          · rw [e5 30 (by decide), e4 30 (by decide), e30, upd_ne _ _ (by omega)]; exact q2
        refine xr_iload dX2_build_112 rfl ?_
        refine xr_aload1 dX2_build_114 rfl ?_
        refine xr_getIv dX2_build_115 fk_2_48 lay_21 rfl m4.2.2.2.1.1 ?_
        refine xr_icmp_ge 160 dX2_build_118 (by decide) (fun hc => ?_) (fun hc => ?_)
        · have : k = (mMarks M).length := by have := nle hc; omega
          subst this
          refine xr_aload0 dX2_build_160 rfl ?_
          refine xr_iload3 dX2_build_161 rfl ?_
          refine xr_ic1 dX2_build_162 ?_
          refine xr_iadd dX2_build_163 ?_
          rw [k_1, nI_add]
          refine xr_putI dX2_build_164 fp_2_33 lay_27 rfl ?_
          generalize hI5 : va_up I4 27 (upd (I4 27) 7 (nI (i + 1 + 1))) = I5
          refine xr_iinc dX2_build_167 rfl ii_1 (Nat.le_of_ble_eq_true rfl) ?_
          show xT _ _ _ 170 [_, _, _, _, _, _] _ _ _
          refine xr_goto 56 dX2_build_170 (by decide) ?_
          rw [k_1, nI_add]
          have eo5 : ∀ a, a ≠ 27 → I5 a = I4 a := fun a h1 => by rw [← hI5, va_up_ne _ _ h1]
          refine IH I5 _ _ (by omega) (fun a h1 h2 h3 h4 => by rw [eo5 a h1]; exact e04 a h1 h2 h3 h4) (by rw [← hI5, up_same, upd_same]) (fun j hj => ?_) (fun j hj => ?_)
          · rcases Nat.lt_or_ge j (i + 1) with q | q
            · exact p1 j q
            · have : j = i + 1 := by omega
              rw [this]; exact hpj
          · rw [eo5 28 (by decide), eo5 29 (by decide), eo5 30 (by decide)]
            rcases Nat.lt_or_ge j (i + 1) with q | q
            · exact tb4 (I5 := I4) (fun _ _ => rfl) o4 j q
            · have : j = i + 1 := by omega
              subst this
              refine ⟨by rw [e4 29 (by decide), e29, upd_same], v30', fun m hmm p hp => ?_⟩
              obtain ⟨k', hk', rfl⟩ := List.getElem_of_mem hmm
              exact d4 k' hk' hk' p hp
        have hkl := nlt hc
        have IHk := IHk hkl
        have v26 : I4 26 k = nI (mMarks M)[k] := by
          have := m4.2.2.2.1.2 k hkl
          rw [Nat.zero_add] at this
          exact this
        have hmm := List.getElem_mem hkl
        have hnd : (mMarks M).Nodup := mMk_nodup M (mN M)
        generalize hmke : (mMarks M)[k] = m at v26 hmm
        have hm16 := marks_16 hM hmm
        have Lx : ∀ x, x ≤ mK M → ∀ I5, (∀ a, a ≠ 28 → I5 a = I4 a) → (∀ j, j ≤ i → ∀ m ∈ mMarks M, ∀ p, p < mK M ^ j → I5 28 (512 * m + sK (mK M) j + p) = nI (mkp M j m p)) → (∀ k' (hk : k' < (mMarks M).length), k' < k → ∀ p, p < mK M ^ (i + 1) → I5 28 (512 * (mMarks M)[k'] + sK (mK M) (i + 1) + p) = nI (mkp M (i + 1) (mMarks M)[k'] p)) → (∀ p, p < x * mK M ^ i → I5 28 (512 * m + sK (mK M) (i + 1) + p) = nI (mkp M (i + 1) m p)) → xT G M_X2_build (xMQ G (xpv fun I' J' => cLv I' M ∧ (∃ bt, n < bt ∧ cTb I' M bt) ∧ (∀ a, a ≠ 27 → a ≠ 28 → a ≠ 29 → a ≠ 30 → I' a = I a) ∧ J = J')) 124 [some (.ref (G.1 27)), some (.ref (G.1 21)), some (.int (nI n)), some (.int (nI (i + 1))), some (.int (nI k)), some (.int (nI x))] [] I5 J := by
          refine x_for (fun x hx IHx I5 e5 o5 d5 b5 => ?_)
          have e05 : ∀ a, a ≠ 27 → a ≠ 28 → a ≠ 29 → a ≠ 30 → I5 a = I a := fun a h1 h2 h3 h4 => by rw [e5 a h2]; exact e04 a h1 h2 h3 h4
          have m5 := mc1 e05
          have v26' : I5 26 k = nI m := by rw [e5 26 (by decide)]; exact v26
          refine xr_iload dX2_build_124 rfl ?_
          refine xr_aload1 dX2_build_126 rfl ?_
          refine xr_getIv dX2_build_127 fk_2_43 lay_21 rfl m5.1.2.1 ?_
          refine xr_icmp_ge 154 dX2_build_130 (by decide) (fun hcx => ?_) (fun hcx => ?_)
          · have : x = mK M := by have := nle hcx; omega
            subst this
            refine xr_iinc dX2_build_154 rfl ii_1 (Nat.le_of_ble_eq_true rfl) ?_
            show xT _ _ _ 157 [_, _, _, _, _, _] _ _ _
            refine xr_goto 112 dX2_build_157 (by decide) ?_
            rw [k_1, nI_add]
            refine IHk I5 _ (fun a ha => by rw [e5 a ha]; exact e4 a ha) o5 (fun k' hk' hlt p hp => ?_)
            rcases Nat.lt_or_ge k' k with q | q
            · exact d5 k' hk' q p hp
            · have : k' = k := by omega
              subst this
              rw [hmke]
              exact b5 p (by rw [Nat.mul_comm, ← hpk]; exact hp)
          have hxl := nlt hcx
          have IHx := IHx hxl
          refine xr_aload0 dX2_build_133 rfl ?_
          refine xr_aload1 dX2_build_134 rfl ?_
          refine xr_iload3 dX2_build_135 rfl ?_
          refine xr_aload1 dX2_build_136 rfl ?_
          refine xr_getR dX2_build_137 fk_2_51 lay_21 rfl ?_
          refine xr_iload dX2_build_140 rfl ?_
          refine xr_ialdv k dX2_build_142 lay_26 rfl (by omega) (by decide) v26' ?_
          refine xr_iload dX2_build_143 rfl ?_
          refine xr_cVv [_, _, _, _] dX2_build_145 (xcv_of cf_X2_buildBranch ml_2_54 (by decide)) rfl lay_27 rfl rfl rfl (Nat.le_of_ble_eq_true rfl) (c2_buildBranch m5 hwh hpj hmm hxl (tb4 e5 o5) (by rw [e5 30 (by decide)]; exact v30')) (fun I6 J6 hc6 => ?_)
          obtain ⟨bn, bo, be, rfl⟩ := hc6
          refine xr_iinc dX2_build_148 rfl ii_1 (Nat.le_of_ble_eq_true rfl) ?_
          show xT _ _ _ 151 [_, _, _, _, _, _] _ _ _
          refine xr_goto 124 dX2_build_151 (by decide) ?_
          rw [k_1, nI_add]
          have hx1 : (x + 1) * mK M ^ i ≤ mK M * mK M ^ i := Nat.mul_le_mul_right _ hxl
          rw [Nat.mul_comm (mK M) (mK M ^ i), ← hpk, Nat.add_mul, Nat.one_mul] at hx1
          refine IHx I6 (fun a ha => by rw [be a ha]; exact e5 a ha) (fun j hj m' hm' p hp => ?_) (fun k' hk' hlt p hp => ?_) (fun p hp => ?_)
          · have hsj : sK (mK M) j + mK M ^ j ≤ sK (mK M) (i + 1) := by
              have key : ∀ a b, a < b → sK (mK M) a + mK M ^ a ≤ sK (mK M) b := by
                intro a b hab
                induction hab with
                | refl => exact Nat.le_refl _
                | step _ ih => exact Nat.le_trans ih (Nat.le_add_right _ _)
              exact key j (i + 1) (by omega)
            have hm'16 := marks_16 hM hm'
            rw [bo _ ?_]
            · exact o5 j hj m' hm' p hp
            · rcases Nat.lt_trichotomy m' m with q | q | q
              · left; omega
              · left; subst q; omega
              · right; omega
          · have hne : (mMarks M)[k'] ≠ m := fun q => by
              rw [← hmke] at q
              have := (List.getElem_inj hnd).mp q
              omega
            rw [bo _ ?_]
            · exact d5 k' hk' hlt p hp
            · rcases Nat.lt_or_ge (mMarks M)[k'] m with q | q
              · left; omega
              · right; omega
          · rw [Nat.add_mul, Nat.one_mul] at hp
            rcases Nat.lt_or_ge p (x * mK M ^ i) with q | q
            · rw [bo _ (Or.inl (by omega))]
              exact b5 p q
            · have := bn (p - x * mK M ^ i) (by omega)
              rw [show x * mK M ^ i + (p - x * mK M ^ i) = p by omega] at this
              exact this
        refine xr_ic0 dX2_build_121 ?_
        refine xr_istore dX2_build_122 (Nat.le_of_ble_eq_true rfl) ?_
        show xT _ _ _ 124 [_, _, _, _, _, _] _ _ _
        exact Lx 0 (Nat.zero_le _) I4 (fun _ _ => rfl) o4 d4 (fun p hp => by rw [Nat.zero_mul] at hp; exact absurd hp (Nat.not_lt_zero _))
      refine xr_ic0 dX2_build_109 ?_
      refine xr_istore dX2_build_110 (Nat.le_of_ble_eq_true rfl) ?_
      show xT _ _ _ 112 [_, _, _, _, _, _] _ _ _
      exact Lm 0 (Nat.zero_le _) I3 _ (fun _ _ => rfl) (fun j hj m hmm p hp => by rw [eo3 28 (by decide) (by decide)]; exact (t1 j (by omega)).2.2 m hmm p hp) (fun k' _ hk' => absurd hk' (Nat.not_lt_zero _))
  obtain ⟨bt, hb7, hb9, hbp, hbt⟩ := hlv
  have K51 : ∀ bt I1 (z3 z4 z5 : Option Value), 1 ≤ bt → bt ≤ 9 → (∀ a, a ≠ 27 → a ≠ 28 → a ≠ 29 → a ≠ 30 → I1 a = I a) → I1 27 7 = nI bt → (∀ i, i < bt → mK M ^ i ≤ 256) → cTb I1 M bt → xT G M_X2_build (xMQ G (xpv fun I' J' => cLv I' M ∧ (∃ bt, n < bt ∧ cTb I' M bt) ∧ (∀ a, a ≠ 27 → a ≠ 28 → a ≠ 29 → a ≠ 30 → I' a = I a) ∧ J = J')) 51 [some (.ref (G.1 27)), some (.ref (G.1 21)), some (.int (nI n)), z3, z4, z5] [] I1 J := by
    intro bt I1 z3 z4 z5 h1 h9 e1 k1 p1 t1
    refine xr_aload0 dX2_build_51 rfl ?_
    refine xr_getIv dX2_build_52 fk_2_33 lay_27 rfl k1 ?_
    refine xr_istore3 dX2_build_55 (Nat.le_of_ble_eq_true rfl) ?_
    show xT _ _ _ 56 [_, _, _, _, _, _] _ _ _
    exact L (9 - bt) bt (by omega) I1 _ _ h1 e1 k1 p1 t1
  refine x_ent (by decide) (Nat.le_of_ble_eq_true rfl) rfl ?_
  show xT _ _ _ 0 [_, _, _, _, _, _] _ _ _
  refine xr_aload0 dX2_build_0 rfl ?_
  refine xr_getIv dX2_build_1 fk_2_33 lay_27 rfl hb7 ?_
  refine xr_if_ne 51 dX2_build_4 (by decide) (fun hz => ?_) (fun hz => ?_)
  · have hz : bt ≠ 0 := fun q => hz (by rw [q]; rfl)
    exact K51 bt I _ _ _ (by omega) hb9 (fun _ _ _ _ _ => rfl) hb7 hbp hbt
  refine xr_aload0 dX2_build_7 rfl ?_
  refine xr_getR dX2_build_8 fk_2_15 lay_27 rfl ?_
  refine xr_ic0 dX2_build_11 ?_
  refine xr_ic1 dX2_build_12 ?_
  refine xr_iast 0 dX2_build_13 lay_29 rfl (by decide) (by decide) ?_
  generalize hI1 : va_up I 29 (upd (I 29) 0 1) = I1
  refine xr_aload0 dX2_build_14 rfl ?_
  refine xr_getR dX2_build_15 fk_2_18 lay_27 rfl ?_
  refine xr_ic0 dX2_build_18 ?_
  refine xr_ic0 dX2_build_19 ?_
  refine xr_iast 0 dX2_build_20 lay_30 rfl (by decide) (by decide) ?_
  generalize hI2 : va_up I1 30 (upd (I1 30) 0 0) = I2
  have e29 : I2 29 = upd (I 29) 0 1 := by rw [← hI2, va_up_ne _ _ (by decide), ← hI1, up_same]
  have e30 : I2 30 0 = 0 := by rw [← hI2, up_same, upd_same]
  have L0 : ∀ m, m ≤ 16 → ∀ I3 (z4 z5 : Option Value), (∀ a, a ≠ 28 → I3 a = I2 a) → (∀ m', m' < m → I3 28 (512 * m') = 0) → xT G M_X2_build (xMQ G (xpv fun I' J' => cLv I' M ∧ (∃ bt, n < bt ∧ cTb I' M bt) ∧ (∀ a, a ≠ 27 → a ≠ 28 → a ≠ 29 → a ≠ 30 → I' a = I a) ∧ J = J')) 23 [some (.ref (G.1 27)), some (.ref (G.1 21)), some (.int (nI n)), some (.int (nI m)), z4, z5] [] I3 J := by
    refine x_for (fun m hmm IH I3 z4 z5 e3 d3 => ?_)
    refine xr_iload3 dX2_build_23 rfl ?_
    refine xr_bip bi_16 dX2_build_24 ?_
    refine xr_icmp_ge 46 dX2_build_26 (by decide) (fun hc => ?_) (fun hc => ?_)
    · have : m = 16 := by have := nle (b := 16) hc; omega
      subst this
      refine xr_aload0 dX2_build_46 rfl ?_
      refine xr_ic1 dX2_build_47 ?_
      refine xr_putI dX2_build_48 fp_2_33 lay_27 rfl ?_
      generalize hI4 : va_up I3 27 (upd (I3 27) 7 1) = I4
      have eo4 : ∀ a, a ≠ 27 → I4 a = I3 a := fun a h1 => by rw [← hI4, va_up_ne _ _ h1]
      refine K51 1 I4 _ _ _ (by decide) (by decide) (fun a h1 h2 h3 h4 => by rw [eo4 a h1, e3 a h2, ← hI2, va_up_ne _ _ h4, ← hI1, va_up_ne _ _ h3]) (by rw [← hI4, up_same, upd_same]; rfl) (fun i hi => by rw [show i = 0 by omega, Nat.pow_zero]; decide) (fun j hj => ?_)
      have : j = 0 := by omega
      subst this
      refine ⟨?_, ?_, fun m hmk p hp => ?_⟩
      · rw [eo4 29 (by decide), e3 29 (by decide), e29, upd_same, Nat.pow_zero]; rfl
      · rw [eo4 30 (by decide), e3 30 (by decide), e30]; rfl
      · rw [Nat.pow_zero] at hp
        have : p = 0 := by omega
        subst this
        rw [eo4 28 (by decide), show 512 * m + sK (mK M) 0 + 0 = 512 * m from rfl, d3 m (marks_16 hM hmk)]
        rfl
    have hml := nlt (b := 16) hc
    refine xr_aload0 dX2_build_29 rfl ?_
    refine xr_getR dX2_build_30 fk_2_11 lay_27 rfl ?_
    refine xr_iload3 dX2_build_33 rfl ?_
    refine xr_sip si_512 dX2_build_34 ?_
    refine xr_imul dX2_build_37 ?_
    refine xr_ic0 dX2_build_38 ?_
    refine xr_iast (512 * m) dX2_build_39 lay_28 (by rw [show (512 : Int32) = nI 512 from rfl, pk_mul, Nat.mul_comm]) (by omega) (by decide) ?_
    refine xr_iinc dX2_build_40 rfl ii_1 (Nat.le_of_ble_eq_true rfl) ?_
    show xT _ _ _ 43 [_, _, _, _, _, _] _ _ _
    refine xr_goto 23 dX2_build_43 (by decide) ?_
    rw [k_1, nI_add]
    refine IH hml _ _ _ (fun a ha => by rw [va_up_ne _ _ ha]; exact e3 a ha) (fun m' hm' => ?_)
    rw [up_same]
    by_cases e : m' = m
    · rw [e, upd_same]
    · rw [upd_ne _ _ (by omega)]; exact d3 m' (by omega)
  refine xr_ic0 dX2_build_21 ?_
  refine xr_istore3 dX2_build_22 (Nat.le_of_ble_eq_true rfl) ?_
  show xT _ _ _ 23 [_, _, _, _, _, _] _ _ _
  exact L0 0 (by decide) I2 _ _ (fun _ _ => rfl) (fun m' hm' => absurd hm' (Nat.not_lt_zero _))
theorem c2_forgetRows : xCon G M_X2_forgetRows [.ref (G.1 27)] I J (xpv fun I' J' => (∀ i, i < 256 → I' 31 i = -1) ∧ (∀ a, a ≠ 31 → I' a = I a) ∧ J = J') := by
  refine x_ent (by decide) (Nat.le_of_ble_eq_true rfl) rfl ?_
  show xT _ _ _ 0 [_] _ _ _
  refine xr_aload0 dX2_forgetRows_0 rfl ?_
  refine xr_getR dX2_forgetRows_1 fk_2_21 lay_27 rfl ?_
  refine xr_icm1 dX2_forgetRows_4 ?_
  refine xr_cSv [_, _] dX2_forgetRows_5 (xcs_of cf_J7_fill_53178 ml_2_37 (by decide)) rfl rfl (Nat.le_of_ble_eq_true rfl) (cJ_fill lay_31 (by decide) (-1)) (fun I1 J1 hc => ?_)
  obtain ⟨h1, e1, rfl⟩ := hc
  refine xr_vret dX2_forgetRows_8 rfl rfl ⟨h1, e1, rfl⟩
end C26
