section M25
variable {G : xG} {I : xI} {J : xJ}
theorem c9_findFarTo {M : xMac} (hM : mOk M) (hwh : mWhole M) {n g : Nat} (hn : mK M ^ n ≤ 256) (hlv : mLv I M n) (hg : g < mK M ^ n) : xCon G M_X9_findFarTo [.ref (G.1 77), .int (nI g)] I J (xpv fun I' J' => (∀ p, p < mK M ^ n → I' 100 p = oI (dst M n p g)) ∧ mfx [100] [] I I' ∧ J = J') := by
  obtain ⟨h28, htk, hmk⟩ := hlv
  have hml := mMarks_len M
  have hN8 := hM.2.2.1
  have hdl : ∀ {p d : Nat}, p < mK M ^ n → isD M n p g d → d < mK M ^ n := fun hp h => isD_lt (rch_lt hM hwh (fun h' => mkp_lt hM hwh h') (mMarks_ok M) hp) h
  have hmlt : ∀ {t p : Nat} (ht : t < (mMarks M).length), mkp M n (mMarks M)[t] p < mK M ^ n := fun ht => mkp_lt hM hwh (mMarks_ok M _ (List.getElem_mem ht))
  generalize hNN : mK M ^ n = N at hn hg h28 hmk hdl hmlt
  have L : ∀ d, d ≤ N → ∀ I1 (z3 z4 : Option Value), mfx [100] [] I I1 → (∀ p, p < N → (∃ k, k ≤ d ∧ isD M n p g k ∧ I1 100 p = nI k) ∨ ((∀ k, k ≤ d → ¬ isD M n p g k) ∧ I1 100 p = -1)) → xT G M_X9_findFarTo (xMQ G (xpv fun I' J' => (∀ p, p < mK M ^ n → I' 100 p = oI (dst M n p g)) ∧ mfx [100] [] I I' ∧ J = J')) 34 [some (.ref (G.1 77)), some (.int (nI g)), some (.int (nI d)), z3, z4] [] I1 J := by
    refine x_for (fun d hd IH I1 z3 z4 f1 hv => ?_)
    have g28 : I1 77 28 = nI N := (f1.2 28 (by decide)).trans h28
    refine xr_iload2 dX9_findFarTo_34 rfl ?_
    refine xr_aload0 dX9_findFarTo_35 rfl ?_
    refine xr_getIv dX9_findFarTo_36 fk_9_226 lay_77 rfl g28 ?_
    refine xr_icmp_ge 131 dX9_findFarTo_39 (by decide) (fun hc => ?_) (fun hc => ?_)
    · have : d = N := by have := nle hc; omega
      subst this
      refine xr_vret dX9_findFarTo_131 rfl rfl ⟨fun p hp => ?_, f1, rfl⟩
      have hp : p < d := by omega
      rcases hv p hp with ⟨k, -, hk, e⟩ | ⟨hno, e⟩
      · rw [e, dst_some hk]; rfl
      · rw [e, dst_none (fun k hk => hno k (by have := hdl hp hk; omega) hk)]; rfl
    · have hdN := nlt hc
      have IH := IH hdN
      refine xr_ic0 dX9_findFarTo_42 ?_
      refine xr_istore3 dX9_findFarTo_43 (Nat.le_of_ble_eq_true rfl) ?_
      show xT _ _ _ 44 [_, _, _, _, _] _ _ _
      have L2 : ∀ p, p ≤ N → ∀ I2 (z4 : Option Value), mfx [100] [] I I2 → (∀ q, q < N → (∃ k, k ≤ d + 1 ∧ isD M n q g k ∧ I2 100 q = nI k) ∨ ((∀ k, k ≤ d → ¬ isD M n q g k) ∧ I2 100 q = -1)) → (∀ p', p' < p → I2 100 p' = -1 → ∀ m ∈ mMarks M, ¬ isD M n (mkp M n m p') g d) → xT G M_X9_findFarTo (xMQ G (xpv fun I' J' => (∀ p, p < mK M ^ n → I' 100 p = oI (dst M n p g)) ∧ mfx [100] [] I I' ∧ J = J')) 44 [some (.ref (G.1 77)), some (.int (nI g)), some (.int (nI d)), some (.int (nI p)), z4] [] I2 J := by
        refine x_for (fun p hp IH2 I2 z4 f2 hv2 hdn => ?_)
        have g28 : I2 77 28 = nI N := (f2.2 28 (by decide)).trans h28
        refine xr_iload3 dX9_findFarTo_44 rfl ?_
        refine xr_aload0 dX9_findFarTo_45 rfl ?_
        refine xr_getIv dX9_findFarTo_46 fk_9_226 lay_77 rfl g28 ?_
        refine xr_icmp_ge 125 dX9_findFarTo_49 (by decide) (fun hc2 => ?_) (fun hc2 => ?_)
        · have : p = N := by have := nle hc2; omega
          subst this
          refine xr_iinc dX9_findFarTo_125 rfl ii_1 (Nat.le_of_ble_eq_true rfl) ?_
          show xT _ _ _ 128 [_, _, _, _, _] _ _ _
          refine xr_goto 34 dX9_findFarTo_128 (by decide) ?_
          rw [k_1, nI_add]
          refine IH I2 _ _ f2 (fun q hq => ?_)
          rcases hv2 q hq with h1 | ⟨hno, e⟩
          · exact Or.inl h1
          · right
            refine ⟨fun k hk hr => ?_, e⟩
            by_cases ek : k = d + 1
            · subst ek
              obtain ⟨m, hm, hd'⟩ := isD_step hr
              exact hdn q hq e m hm hd'
            · exact hno k (by omega) hr
        · have hpN := nlt hc2
          have IH2 := IH2 hpN
          refine xr_ic0 dX9_findFarTo_52 ?_
          refine xr_istore dX9_findFarTo_53 (Nat.le_of_ble_eq_true rfl) ?_
          show xT _ _ _ 55 [_, _, _, _, _] _ _ _
          have L3 : ∀ t, t ≤ (mMarks M).length → ∀ I3, mfx [100] [] I I3 → (∀ q, q < N → (∃ k, k ≤ d + 1 ∧ isD M n q g k ∧ I3 100 q = nI k) ∨ ((∀ k, k ≤ d → ¬ isD M n q g k) ∧ I3 100 q = -1)) → (∀ p', p' < p → I3 100 p' = -1 → ∀ m ∈ mMarks M, ¬ isD M n (mkp M n m p') g d) → (I3 100 p = -1 → ∀ t' (ht : t' < (mMarks M).length), t' < t → ¬ isD M n (mkp M n (mMarks M)[t'] p) g d) → xT G M_X9_findFarTo (xMQ G (xpv fun I' J' => (∀ p, p < mK M ^ n → I' 100 p = oI (dst M n p g)) ∧ mfx [100] [] I I' ∧ J = J')) 55 [some (.ref (G.1 77)), some (.int (nI g)), some (.int (nI d)), some (.int (nI p)), some (.int (nI t))] [] I3 J := by
            refine x_for (fun t ht IH3 I3 f3 hv3 hdn3 hdt => ?_)
            have g11 : I3 77 11 = nI (mMarks M).length := (f3.2 11 (by decide)).trans htk.1
            refine xr_iload dX9_findFarTo_55 rfl ?_
            refine xr_aload0 dX9_findFarTo_57 rfl ?_
            refine xr_getIv dX9_findFarTo_58 fk_9_127 lay_77 rfl g11 ?_
            refine xr_icmp_ge 119 dX9_findFarTo_61 (by decide) (fun hc3 => ?_) (fun hc3 => ?_)
            · have hc3 := nle hc3
              refine xr_iinc dX9_findFarTo_119 rfl ii_1 (Nat.le_of_ble_eq_true rfl) ?_
              show xT _ _ _ 122 [_, _, _, _, _] _ _ _
              refine xr_goto 44 dX9_findFarTo_122 (by decide) ?_
              rw [k_1, nI_add]
              refine IH2 I3 _ f3 hv3 (fun p' hp' hn1 m hm => ?_)
              by_cases e : p' = p
              · subst e
                obtain ⟨t', ht', rfl⟩ := List.getElem_of_mem hm
                exact hdt hn1 t' ht' (by omega)
              · exact hdn3 p' (by omega) hn1 m hm
            · have htl := nlt hc3
              have IH3 := IH3 htl
              have hq := hmlt (p := p) htl
              have h96 : I3 96 (256 * t + p) = nI (mkp M n (mMarks M)[t] p) := by rw [f3.1 96 (by decide) (by decide)]; exact hmk t htl p hpN
              generalize hqq : mkp M n (mMarks M)[t] p = qq at hq h96
              have hqd : I3 100 qq = nI d ↔ isD M n qq g d := by
                rcases hv3 qq hq with ⟨k, hk, hD, e⟩ | ⟨hno, e⟩
                · rw [e, nI_eq (by omega) (by omega)]
                  exact ⟨fun q => by rw [← q]; exact hD, fun q => hD.uq q⟩
                · rw [e]
                  refine ⟨fun q => ?_, fun q => absurd q (hno d (Nat.le_refl _))⟩
                  exfalso
                  exact nI_pos (n := d) (by omega) (by rw [← q]; decide)
              -- the number stays, or becomes one more than d
              have J112 : ∀ v : Int32, (v = I3 100 p ∧ (v = -1 → ¬ isD M n qq g d)) ∨ (I3 100 p = -1 ∧ isD M n qq g d ∧ v = nI (d + 1)) → xT G M_X9_findFarTo (xMQ G (xpv fun I' J' => (∀ p, p < mK M ^ n → I' 100 p = oI (dst M n p g)) ∧ mfx [100] [] I I' ∧ J = J')) 112 [some (.ref (G.1 77)), some (.int (nI g)), some (.int (nI d)), some (.int (nI p)), some (.int (nI t))] [.int v, .int (nI p), .ref (G.1 100)] I3 J := by
                intro v hv
                refine xr_iast _ dX9_findFarTo_112 lay_100 rfl (by omega) (by decide) ?_
                refine xr_iinc dX9_findFarTo_113 rfl ii_1 (Nat.le_of_ble_eq_true rfl) ?_
                show xT _ _ _ 116 [_, _, _, _, _] _ _ _
                refine xr_goto 55 dX9_findFarTo_116 (by decide) ?_
                rw [k_1, nI_add]
                have hne1 : (-1 : Int32) ≠ nI (d + 1) := fun q => nI_pos (n := d + 1) (by omega) (by rw [← q]; decide)
                refine IH3 _ (f3.up _ (by decide) (by decide)) (fun q hq2 => ?_) (fun p' hp' hn1 m hm => ?_) (fun hn1 t' ht' h1 => ?_)
                · rw [up_same]
                  by_cases e : q = p
                  · subst e
                    rw [upd_same]
                    rcases hv with ⟨rfl, -⟩ | ⟨hm1, hD, rfl⟩
                    · exact hv3 q hq2
                    · left
                      refine ⟨d + 1, Nat.le_refl _, ⟨?_, fun k hk hr => ?_⟩, rfl⟩
                      · rw [← hqq] at hD
                        exact rt_iff.mp ⟨_, List.getElem_mem htl, rt_iff.mpr hD.1⟩
                      · obtain ⟨k', hk', hD'⟩ := rch_isD hr
                        rcases hv3 q hq2 with ⟨k2, hk2, -, e2⟩ | ⟨hno, -⟩
                        · rw [hm1] at e2
                          exact nI_pos (n := k2) (by omega) (by rw [← e2]; decide)
                        · exact hno k' (by omega) hD'
                  · rw [upd_ne _ _ e]; exact hv3 q hq2
                · rw [up_same, upd_ne _ _ (by omega)] at hn1
                  exact hdn3 p' hp' hn1 m hm
                · rw [up_same, upd_same] at hn1
                  rcases hv with ⟨e1, e2⟩ | ⟨-, -, e1⟩
                  · by_cases et : t' = t
                    · subst et; rw [hqq]; exact e2 hn1
                    · exact hdt (e1.symm.trans hn1) t' ht' (by omega)
                  · exact absurd (hn1.symm.trans e1) hne1
              refine xr_aload0 dX9_findFarTo_64 rfl ?_
              refine xr_getR dX9_findFarTo_65 fk_9_81 lay_77 rfl ?_
              refine xr_iload3 dX9_findFarTo_68 rfl ?_
              refine xr_aload0 dX9_findFarTo_69 rfl ?_
              refine xr_getR dX9_findFarTo_70 fk_9_81 lay_77 rfl ?_
              refine xr_iload3 dX9_findFarTo_73 rfl ?_
              refine xr_iald _ dX9_findFarTo_74 lay_100 rfl (by omega) (by decide) ?_
              refine xr_if_ge 106 dX9_findFarTo_75 (by decide) (fun hge => ?_) (fun hge => ?_)
              · skip
                refine xr_aload0 dX9_findFarTo_106 rfl ?_
                refine xr_getR dX9_findFarTo_107 fk_9_81 lay_77 rfl ?_
                refine xr_iload3 dX9_findFarTo_110 rfl ?_
                refine xr_iald _ dX9_findFarTo_111 lay_100 rfl (by omega) (by decide) ?_
                refine J112 _ (Or.inl ⟨rfl, fun q => ?_⟩)
                rw [q] at hge
                exact absurd hge (by decide)
              · have hm1 : I3 100 p = -1 := by
                  rcases hv3 p hpN with ⟨k, hk, -, e⟩ | ⟨-, e⟩
                  · rw [e] at hge
                    exact absurd (nI_pos' (n := k) (by omega)) hge
                  · exact e
                refine xr_aload0 dX9_findFarTo_78 rfl ?_
                refine xr_getR dX9_findFarTo_79 fk_9_81 lay_77 rfl ?_
                refine xr_aload0 dX9_findFarTo_82 rfl ?_
                refine xr_getR dX9_findFarTo_83 fk_9_69 lay_77 rfl ?_
                refine xr_sip si_256 dX9_findFarTo_86 ?_
                refine xr_iload dX9_findFarTo_89 rfl ?_
                refine xr_imul dX9_findFarTo_91 ?_
                refine xr_iload3 dX9_findFarTo_92 rfl ?_
                show xT _ _ _ 93 _ _ _ _
                refine xr_iadd dX9_findFarTo_93 ?_
                refine xr_ialdv _ dX9_findFarTo_94 lay_96 (by (try simp only [k_0, k_1, k_2, k_3, k_4, k_5, k_8, k_16, k_34, k_40, k_200, k_201, k_256, k_512, nI_add, pk_mul]); first | done | rfl) (by omega) (by decide) h96 ?_
                refine xr_iald _ dX9_findFarTo_95 lay_100 rfl (by omega) (by decide) ?_
                refine xr_iload2 dX9_findFarTo_96 rfl ?_
                refine xr_icmp_ne 106 dX9_findFarTo_97 (by decide) (fun hne => ?_) (fun hne => ?_)
                · skip
                  refine xr_aload0 dX9_findFarTo_106 rfl ?_
                  refine xr_getR dX9_findFarTo_107 fk_9_81 lay_77 rfl ?_
                  refine xr_iload3 dX9_findFarTo_110 rfl ?_
                  refine xr_iald _ dX9_findFarTo_111 lay_100 rfl (by omega) (by decide) ?_
                  exact J112 _ (Or.inl ⟨rfl, fun _ q => hne (hqd.mpr q)⟩)
                · skip
                  refine xr_iload2 dX9_findFarTo_100 rfl ?_
                  refine xr_ic1 dX9_findFarTo_101 ?_
                  refine xr_iadd dX9_findFarTo_102 ?_
                  refine xr_goto 112 dX9_findFarTo_103 (by decide) ?_
                  rw [k_1, nI_add]
                  exact J112 _ (Or.inr ⟨hm1, hqd.mp hne, rfl⟩)
          exact L3 0 (Nat.zero_le _) I2 f2 hv2 hdn (fun _ t' ht' h => by omega)
      refine L2 0 (Nat.zero_le _) I1 _ f1 (fun q hq => ?_) (fun p' h => by omega)
      rcases hv q hq with ⟨k, hk, hD, e⟩ | h
      · exact Or.inl ⟨k, by omega, hD, e⟩
      · exact Or.inr h
  have L0 : ∀ p, p ≤ N → ∀ I1, mfx [100] [] I I1 → (∀ q, q < p → I1 100 q = if q = g then 0 else -1) → xT G M_X9_findFarTo (xMQ G (xpv fun I' J' => (∀ p, p < mK M ^ n → I' 100 p = oI (dst M n p g)) ∧ mfx [100] [] I I' ∧ J = J')) 2 [some (.ref (G.1 77)), some (.int (nI g)), some (.int (nI p)), none, none] [] I1 J := by
    refine x_for (fun p hp IH I1 f1 hz => ?_)
    have g28 : I1 77 28 = nI N := (f1.2 28 (by decide)).trans h28
    refine xr_iload2 dX9_findFarTo_2 rfl ?_
    refine xr_aload0 dX9_findFarTo_3 rfl ?_
    refine xr_getIv dX9_findFarTo_4 fk_9_226 lay_77 rfl g28 ?_
    refine xr_icmp_ge 32 dX9_findFarTo_7 (by decide) (fun hc => ?_) (fun hc => ?_)
    · have : p = N := by have := nle hc; omega
      subst this
      refine xr_ic0 dX9_findFarTo_32 ?_
      refine xr_istore2 dX9_findFarTo_33 (Nat.le_of_ble_eq_true rfl) ?_
      show xT _ _ _ 34 [_, _, _, _, _] _ _ _
      refine L 0 (Nat.zero_le _) I1 _ _ f1 (fun q hq => ?_)
      rw [hz q hq]
      by_cases e : q = g
      · rw [if_pos e]
        exact Or.inl ⟨0, Nat.le_refl _, ⟨e.symm, fun k hk => by omega⟩, rfl⟩
      · rw [if_neg e]
        exact Or.inr ⟨fun k hk hr => by
          have : k = 0 := by omega
          subst this
          exact e hr.1.symm, rfl⟩
    · have hpN := nlt hc
      have IH := IH hpN
      have J25 : ∀ v : Int32, v = (if p = g then 0 else -1) → xT G M_X9_findFarTo (xMQ G (xpv fun I' J' => (∀ p, p < mK M ^ n → I' 100 p = oI (dst M n p g)) ∧ mfx [100] [] I I' ∧ J = J')) 25 [some (.ref (G.1 77)), some (.int (nI g)), some (.int (nI p)), none, none] [.int v, .int (nI p), .ref (G.1 100)] I1 J := by
        intro v hv
        refine xr_iast _ dX9_findFarTo_25 lay_100 rfl (by omega) (by decide) ?_
        refine xr_iinc dX9_findFarTo_26 rfl ii_1 (Nat.le_of_ble_eq_true rfl) ?_
        show xT _ _ _ 29 [_, _, _, _, _] _ _ _
        refine xr_goto 2 dX9_findFarTo_29 (by decide) ?_
        rw [k_1, nI_add]
        refine IH _ (f1.up _ (by decide) (by decide)) (fun q hq => ?_)
        rw [up_same]
        by_cases e : q = p
        · subst e; rw [upd_same, hv]
        · rw [upd_ne _ _ e]; exact hz q (by omega)
      refine xr_aload0 dX9_findFarTo_10 rfl ?_
      refine xr_getR dX9_findFarTo_11 fk_9_81 lay_77 rfl ?_
      refine xr_iload2 dX9_findFarTo_14 rfl ?_
      refine xr_iload2 dX9_findFarTo_15 rfl ?_
      refine xr_iload1 dX9_findFarTo_16 rfl ?_
      refine xr_icmp_ne 24 dX9_findFarTo_17 (by decide) (fun he => ?_) (fun he => ?_)
      · skip
        refine xr_icm1 dX9_findFarTo_24 ?_
        exact J25 _ (by rw [if_neg (fun q => he (by rw [q]))])
      · skip
        refine xr_ic0 dX9_findFarTo_20 ?_
        refine xr_goto 25 dX9_findFarTo_21 (by decide) ?_
        exact J25 _ (by rw [if_pos ((nI_eq (by omega) (by omega)).mp he)])
  refine x_ent (by decide) (Nat.le_of_ble_eq_true rfl) rfl ?_
  show xT _ _ _ 0 [_, _, _, _, _] _ _ _
  refine xr_ic0 dX9_findFarTo_0 ?_
  refine xr_istore2 dX9_findFarTo_1 (Nat.le_of_ble_eq_true rfl) ?_
  show xT _ _ _ 2 [_, _, _, _, _] _ _ _
  rw [← hNN]
  exact L0 0 (Nat.zero_le _) I mfx.rf (fun q h => by omega)
end M25
