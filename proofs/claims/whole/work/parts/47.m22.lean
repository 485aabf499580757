section M22
variable {G : xG} {I : xI} {J : xJ}
theorem c9_findFar {M : xMac} (hM : mOk M) (hwh : mWhole M) {n f : Nat} (hn : mK M ^ n ≤ 256) (hlv : mLv I M n) (hf : f < mK M ^ n) : xCon G M_X9_findFar [.ref (G.1 77), .int (nI f)] I J (xpv fun I' J' => (∀ p, p < mK M ^ n → I' 99 p = oI (dst M n f p)) ∧ mfx [99] [] I I' ∧ J = J') := by
  obtain ⟨h28, htk, hmk⟩ := hlv
  have hml := mMarks_len M
  have hN8 := hM.2.2.1
  have hlt : ∀ {d p : Nat}, rch M n f d p → p < mK M ^ n := rch_lt hM hwh (fun h => mkp_lt hM hwh h) (mMarks_ok M) hf
  generalize hNN : mK M ^ n = N at hn hf h28 hmk hlt
  -- the rounds
  have L : ∀ d, d ≤ N → ∀ I1 (z3 z4 z5 : Option Value), mfx [99] [] I I1 → (∀ p, p < N → (∃ k, k ≤ d ∧ isD M n f p k ∧ I1 99 p = nI k) ∨ ((∀ k, k ≤ d → ¬ rch M n f k p) ∧ I1 99 p = -1)) → xT G M_X9_findFar (xMQ G (xpv fun I' J' => (∀ p, p < mK M ^ n → I' 99 p = oI (dst M n f p)) ∧ mfx [99] [] I I' ∧ J = J')) 34 [some (.ref (G.1 77)), some (.int (nI f)), some (.int (nI d)), z3, z4, z5] [] I1 J := by
    refine x_for (fun d hd IH I1 z3 z4 z5 f1 hv => ?_)
    have g28 : I1 77 28 = nI N := (f1.2 28 (by decide)).trans h28
    refine xr_iload2 dX9_findFar_34 rfl ?_
    refine xr_aload0 dX9_findFar_35 rfl ?_
    refine xr_getIv dX9_findFar_36 fk_9_226 lay_77 rfl g28 ?_
    refine xr_icmp_ge 137 dX9_findFar_39 (by decide) (fun hc => ?_) (fun hc => ?_)
    · have : d = N := by have := nle hc; omega
      subst this
      refine xr_vret dX9_findFar_137 rfl rfl ⟨fun p hp => ?_, f1, rfl⟩
      have hp : p < d := by omega
      rcases hv p hp with ⟨k, -, hk, e⟩ | ⟨hno, e⟩
      · rw [e, dst_some hk]; rfl
      · rw [e, dst_none (fun k hk => hno k (by have := isD_lt hlt hk; omega) hk.1)]; rfl
    · have hdN := nlt hc
      have IH := IH hdN
      refine xr_ic0 dX9_findFar_42 ?_
      refine xr_istore3 dX9_findFar_43 (Nat.le_of_ble_eq_true rfl) ?_
      show xT _ _ _ 44 [_, _, _, _, _, _] _ _ _
      have L2 : ∀ p, p ≤ N → ∀ I2 (z4 z5 : Option Value), mfx [99] [] I I2 → (∀ q, q < N → (∃ k, k ≤ d + 1 ∧ isD M n f q k ∧ I2 99 q = nI k) ∨ ((∀ k, k ≤ d → ¬ rch M n f k q) ∧ I2 99 q = -1)) → (∀ p', p' < p → isD M n f p' d → ∀ m ∈ mMarks M, I2 99 (mkp M n m p') ≠ -1) → xT G M_X9_findFar (xMQ G (xpv fun I' J' => (∀ p, p < mK M ^ n → I' 99 p = oI (dst M n f p)) ∧ mfx [99] [] I I' ∧ J = J')) 44 [some (.ref (G.1 77)), some (.int (nI f)), some (.int (nI d)), some (.int (nI p)), z4, z5] [] I2 J := by
        refine x_for (fun p hp IH2 I2 z4 z5 f2 hv2 hdn => ?_)
        have g28 : I2 77 28 = nI N := (f2.2 28 (by decide)).trans h28
        refine xr_iload3 dX9_findFar_44 rfl ?_
        refine xr_aload0 dX9_findFar_45 rfl ?_
        refine xr_getIv dX9_findFar_46 fk_9_226 lay_77 rfl g28 ?_
        refine xr_icmp_ge 131 dX9_findFar_49 (by decide) (fun hc2 => ?_) (fun hc2 => ?_)
        · have : p = N := by have := nle hc2; omega
          subst this
          refine xr_iinc dX9_findFar_131 rfl ii_1 (Nat.le_of_ble_eq_true rfl) ?_
          show xT _ _ _ 134 [_, _, _, _, _, _] _ _ _
          refine xr_goto 34 dX9_findFar_134 (by decide) ?_
          rw [k_1, nI_add]
          refine IH I2 _ _ _ f2 (fun q hq => ?_)
          rcases hv2 q hq with h1 | ⟨hno, e⟩
          · exact Or.inl h1
          · right
            refine ⟨fun k hk hr => ?_, e⟩
            by_cases ek : k = d + 1
            · subst ek
              obtain ⟨p', hp', m, hm, e2⟩ := hr
              obtain ⟨k', hk', hd'⟩ := rch_isD hp'
              by_cases ek' : k' = d
              · subst ek'
                have := hdn p' (hlt hp') hd' m hm
                rw [e2] at this
                exact this e
              · exact hno (k' + 1) (by omega) ⟨p', hd'.1, m, hm, e2⟩
            · exact hno k (by omega) hr
        · have hpN := nlt hc2
          have IH2 := IH2 hpN
          refine xr_ic0 dX9_findFar_52 ?_
          refine xr_istore dX9_findFar_53 (Nat.le_of_ble_eq_true rfl) ?_
          show xT _ _ _ 55 [_, _, _, _, _, _] _ _ _
          have L3 : ∀ t, t ≤ (mMarks M).length → ∀ I3 (z5 : Option Value), mfx [99] [] I I3 → (∀ q, q < N → (∃ k, k ≤ d + 1 ∧ isD M n f q k ∧ I3 99 q = nI k) ∨ ((∀ k, k ≤ d → ¬ rch M n f k q) ∧ I3 99 q = -1)) → (∀ p', p' < p → isD M n f p' d → ∀ m ∈ mMarks M, I3 99 (mkp M n m p') ≠ -1) → (∀ t' (ht : t' < (mMarks M).length), t' < t → I3 99 (mkp M n (mMarks M)[t'] p) ≠ -1) → xT G M_X9_findFar (xMQ G (xpv fun I' J' => (∀ p, p < mK M ^ n → I' 99 p = oI (dst M n f p)) ∧ mfx [99] [] I I' ∧ J = J')) 55 [some (.ref (G.1 77)), some (.int (nI f)), some (.int (nI d)), some (.int (nI p)), some (.int (nI t)), z5] [] I3 J := by
            refine x_for (fun t ht IH3 I3 z5 f3 hv3 hdn3 hdt => ?_)
            have g11 : I3 77 11 = nI (mMarks M).length := (f3.2 11 (by decide)).trans htk.1
            have out : (isD M n f p d → t = (mMarks M).length) → xT G M_X9_findFar (xMQ G (xpv fun I' J' => (∀ p, p < mK M ^ n → I' 99 p = oI (dst M n f p)) ∧ mfx [99] [] I I' ∧ J = J')) 125 [some (.ref (G.1 77)), some (.int (nI f)), some (.int (nI d)), some (.int (nI p)), some (.int (nI t)), z5] [] I3 J := by
              intro hout
              refine xr_iinc dX9_findFar_125 rfl ii_1 (Nat.le_of_ble_eq_true rfl) ?_
              show xT _ _ _ 128 [_, _, _, _, _, _] _ _ _
              refine xr_goto 44 dX9_findFar_128 (by decide) ?_
              rw [k_1, nI_add]
              refine IH2 I3 _ _ f3 hv3 (fun p' hp' hD m hm => ?_)
              by_cases e : p' = p
              · subst e
                obtain ⟨t', ht', rfl⟩ := List.getElem_of_mem hm
                exact hdt t' ht' (by have := hout hD; omega)
              · exact hdn3 p' (by omega) hD m hm
            refine xr_iload dX9_findFar_55 rfl ?_
            refine xr_aload0 dX9_findFar_57 rfl ?_
            refine xr_getIv dX9_findFar_58 fk_9_127 lay_77 rfl g11 ?_
            refine xr_icmp_ge 125 dX9_findFar_61 (by decide) (fun hc3 => ?_) (fun hc3 => ?_)
            · have hc3 := nle hc3
              exact out (fun _ => by omega)
            · have htl := nlt hc3
              have IH3 := IH3 htl
              refine xr_aload0 dX9_findFar_64 rfl ?_
              refine xr_getR dX9_findFar_65 fk_9_78 lay_77 rfl ?_
              refine xr_iload3 dX9_findFar_68 rfl ?_
              refine xr_iald _ dX9_findFar_69 lay_99 rfl (by omega) (by decide) ?_
              refine xr_iload2 dX9_findFar_70 rfl ?_
              have hpd : I3 99 p = nI d ↔ isD M n f p d := by
                rcases hv3 p hpN with ⟨k, hk, hD, e⟩ | ⟨hno, e⟩
                · rw [e, nI_eq (by omega) (by omega)]
                  exact ⟨fun q => by rw [← q]; exact hD, fun q => hD.uq q⟩
                · rw [e]
                  refine ⟨fun q => ?_, fun q => absurd q.1 (hno d (Nat.le_refl _))⟩
                  exfalso
                  exact nI_pos (n := d) (by omega) (by rw [← q]; decide)
              refine xr_icmp_ne 125 dX9_findFar_71 (by decide) (fun hne => ?_) (fun hne => ?_)
              · exact out (fun q => absurd (hpd.mpr q) hne)
              · have hD := hpd.mp hne
                have hm := List.getElem_mem htl
                have hmo := mMarks_ok M _ hm
                have hq : mkp M n (mMarks M)[t] p < N := by rw [← hNN]; exact mkp_lt hM hwh hmo
                have h96 : I3 96 (256 * t + p) = nI (mkp M n (mMarks M)[t] p) := by rw [f3.1 96 (by decide) (by decide)]; exact hmk t htl p hpN
                have hrq : rch M n f (d + 1) (mkp M n (mMarks M)[t] p) := ⟨p, hD.1, _, hm, rfl⟩
                generalize hqq : mkp M n (mMarks M)[t] p = qq at hq h96 hrq
                refine xr_aload0 dX9_findFar_74 rfl ?_
                refine xr_getR dX9_findFar_75 fk_9_69 lay_77 rfl ?_
                refine xr_sip si_256 dX9_findFar_78 ?_
                refine xr_iload dX9_findFar_81 rfl ?_
                refine xr_imul dX9_findFar_83 ?_
                refine xr_iload3 dX9_findFar_84 rfl ?_
                refine xr_iadd dX9_findFar_85 ?_
                refine xr_ialdv _ dX9_findFar_86 lay_96 (by (try simp only [k_0, k_1, k_2, k_3, k_4, k_5, k_8, k_16, k_34, k_40, k_200, k_201, k_256, k_512, nI_add, pk_mul]); first | done | rfl) (by omega) (by decide) h96 ?_
                show xT _ _ _ 87 _ _ _ _
                refine xr_istore dX9_findFar_87 (Nat.le_of_ble_eq_true rfl) ?_
                show xT _ _ _ 89 [_, _, _, _, _, _] _ _ _
                refine xr_aload0 dX9_findFar_89 rfl ?_
                refine xr_getR dX9_findFar_90 fk_9_78 lay_77 rfl ?_
                refine xr_iload dX9_findFar_93 rfl ?_
                refine xr_aload0 dX9_findFar_95 rfl ?_
                refine xr_getR dX9_findFar_96 fk_9_78 lay_77 rfl ?_
                refine xr_iload dX9_findFar_99 rfl ?_
                refine xr_iald _ dX9_findFar_101 lay_99 rfl (by omega) (by decide) ?_
                show xT _ _ _ 102 _ _ _ _
                have J118 : ∀ v : Int32, ((∃ k, k ≤ d + 1 ∧ isD M n f qq k ∧ v = nI k)) → xT G M_X9_findFar (xMQ G (xpv fun I' J' => (∀ p, p < mK M ^ n → I' 99 p = oI (dst M n f p)) ∧ mfx [99] [] I I' ∧ J = J')) 118 [some (.ref (G.1 77)), some (.int (nI f)), some (.int (nI d)), some (.int (nI p)), some (.int (nI t)), some (.int (nI qq))] [.int v, .int (nI qq), .ref (G.1 99)] I3 J := by
                  rintro v ⟨k, hk, hDk, rfl⟩
                  refine xr_iast _ dX9_findFar_118 lay_99 rfl (by omega) (by decide) ?_
                  refine xr_iinc dX9_findFar_119 rfl ii_1 (Nat.le_of_ble_eq_true rfl) ?_
                  show xT _ _ _ 122 [_, _, _, _, _, _] _ _ _
                  refine xr_goto 55 dX9_findFar_122 (by decide) ?_
                  rw [k_1, nI_add]
                  have nm : ∀ q, I3 99 q ≠ -1 → (upd (I3 99) qq (nI k)) q ≠ -1 := fun q hne => by
                    by_cases e : q = qq
                    · rw [e, upd_same]
                      exact fun e2 => nI_pos (n := k) (by omega) (by rw [e2]; decide)
                    · rw [upd_ne _ _ e]; exact hne
                  refine IH3 _ _ (f3.up _ (by decide) (by decide)) (fun q hq => ?_) (fun p' hp' hD' m hm' => by rw [up_same]; exact nm _ (hdn3 p' hp' hD' m hm')) (fun t' ht' h1 => ?_)
                  · rw [up_same]
                    by_cases e : q = qq
                    · rw [e, upd_same]; exact Or.inl ⟨k, hk, hDk, rfl⟩
                    · rw [upd_ne _ _ e]; exact hv3 q hq
                  · rw [up_same]
                    by_cases e : t' = t
                    · subst e
                      rw [hqq, upd_same]
                      exact fun e2 => nI_pos (n := k) (by omega) (by rw [e2]; decide)
                    · exact nm _ (hdt t' ht' (by omega))
                rcases hv3 qq hq with ⟨k, hk, hDk, e⟩ | ⟨hno, e⟩
                · rw [e]
                  refine xr_if_ge 111 dX9_findFar_102 (by decide) (fun hge => ?_) (fun hge => ?_)
                  rotate_left
                  · exact absurd (nI_pos' (by omega)) hge
                  refine xr_aload0 dX9_findFar_111 rfl ?_
                  refine xr_getR dX9_findFar_112 fk_9_78 lay_77 rfl ?_
                  refine xr_iload dX9_findFar_115 rfl ?_
                  refine xr_ialdv _ dX9_findFar_117 lay_99 rfl (by omega) (by decide) e ?_
                  exact J118 _ ⟨k, hk, hDk, rfl⟩
                · rw [e]
                  refine xr_if_ge 111 dX9_findFar_102 (by decide) (fun hge => ?_) (fun hge => ?_)
                  · exact absurd hge (by decide)
                  refine xr_iload2 dX9_findFar_105 rfl ?_
                  refine xr_ic1 dX9_findFar_106 ?_
                  refine xr_iadd dX9_findFar_107 ?_
                  refine xr_goto 118 dX9_findFar_108 (by decide) ?_
                  rw [k_1, nI_add]
                  exact J118 _ ⟨d + 1, Nat.le_refl _, ⟨hrq, fun k hk => hno k (by omega)⟩, rfl⟩
          exact L3 0 (Nat.zero_le _) I2 _ f2 hv2 hdn (fun t' ht' h => by omega)
      refine L2 0 (Nat.zero_le _) I1 _ _ f1 (fun q hq => ?_) (fun p' h => by omega)
      rcases hv q hq with ⟨k, hk, hD, e⟩ | h
      · exact Or.inl ⟨k, by omega, hD, e⟩
      · exact Or.inr h
  -- the start
  have L0 : ∀ p, p ≤ N → ∀ I1, mfx [99] [] I I1 → (∀ q, q < p → I1 99 q = if q = f then 0 else -1) → xT G M_X9_findFar (xMQ G (xpv fun I' J' => (∀ p, p < mK M ^ n → I' 99 p = oI (dst M n f p)) ∧ mfx [99] [] I I' ∧ J = J')) 2 [some (.ref (G.1 77)), some (.int (nI f)), some (.int (nI p)), none, none, none] [] I1 J := by
    refine x_for (fun p hp IH I1 f1 hz => ?_)
    have g28 : I1 77 28 = nI N := (f1.2 28 (by decide)).trans h28
    refine xr_iload2 dX9_findFar_2 rfl ?_
    refine xr_aload0 dX9_findFar_3 rfl ?_
    refine xr_getIv dX9_findFar_4 fk_9_226 lay_77 rfl g28 ?_
    refine xr_icmp_ge 32 dX9_findFar_7 (by decide) (fun hc => ?_) (fun hc => ?_)
    · have : p = N := by have := nle hc; omega
      subst this
      refine xr_ic0 dX9_findFar_32 ?_
      refine xr_istore2 dX9_findFar_33 (Nat.le_of_ble_eq_true rfl) ?_
      show xT _ _ _ 34 [_, _, _, _, _, _] _ _ _
      refine L 0 (Nat.zero_le _) I1 _ _ _ f1 (fun q hq => ?_)
      rw [hz q hq]
      by_cases e : q = f
      · rw [if_pos e]
        exact Or.inl ⟨0, Nat.le_refl _, ⟨e, fun k hk => by omega⟩, rfl⟩
      · rw [if_neg e]
        exact Or.inr ⟨fun k hk hr => by
          have : k = 0 := by omega
          subst this
          exact e hr, rfl⟩
    · have hpN := nlt hc
      have IH := IH hpN
      have J25 : ∀ v : Int32, v = (if p = f then 0 else -1) → xT G M_X9_findFar (xMQ G (xpv fun I' J' => (∀ p, p < mK M ^ n → I' 99 p = oI (dst M n f p)) ∧ mfx [99] [] I I' ∧ J = J')) 25 [some (.ref (G.1 77)), some (.int (nI f)), some (.int (nI p)), none, none, none] [.int v, .int (nI p), .ref (G.1 99)] I1 J := by
        intro v hv
        refine xr_iast _ dX9_findFar_25 lay_99 rfl (by omega) (by decide) ?_
        refine xr_iinc dX9_findFar_26 rfl ii_1 (Nat.le_of_ble_eq_true rfl) ?_
        show xT _ _ _ 29 [_, _, _, _, _, _] _ _ _
        refine xr_goto 2 dX9_findFar_29 (by decide) ?_
        rw [k_1, nI_add]
        refine IH _ (f1.up _ (by decide) (by decide)) (fun q hq => ?_)
        rw [up_same]
        by_cases e : q = p
        · subst e; rw [upd_same, hv]
        · rw [upd_ne _ _ e]; exact hz q (by omega)
      refine xr_aload0 dX9_findFar_10 rfl ?_
      refine xr_getR dX9_findFar_11 fk_9_78 lay_77 rfl ?_
      refine xr_iload2 dX9_findFar_14 rfl ?_
      refine xr_iload2 dX9_findFar_15 rfl ?_
      refine xr_iload1 dX9_findFar_16 rfl ?_
      refine xr_icmp_ne 24 dX9_findFar_17 (by decide) (fun he => ?_) (fun he => ?_)
      · skip
        refine xr_icm1 dX9_findFar_24 ?_
        exact J25 _ (by rw [if_neg (fun q => he (by rw [q]))])
      · skip
        refine xr_ic0 dX9_findFar_20 ?_
        refine xr_goto 25 dX9_findFar_21 (by decide) ?_
        exact J25 _ (by rw [if_pos ((nI_eq (by omega) (by omega)).mp he)])
  refine x_ent (by decide) (Nat.le_of_ble_eq_true rfl) rfl ?_
  show xT _ _ _ 0 [_, _, _, _, _, _] _ _ _
  refine xr_ic0 dX9_findFar_0 ?_
  refine xr_istore2 dX9_findFar_1 (Nat.le_of_ble_eq_true rfl) ?_
  show xT _ _ _ 2 [_, _, _, _, _, _] _ _ _
  rw [← hNN]
  exact L0 0 (Nat.zero_le _) I mfx.rf (fun q h => by omega)
end M22
