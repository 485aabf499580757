section M28
variable {G : xG} {I : xI} {J : xJ}
theorem c9_takeShort {S : xSt} (m : Int32) (h : mIv I S) : xCon G M_X9_takeShort [.ref (G.1 77), .int m] I J (xpi fun v I' J' => v = sp_short S m ∧ (sp_short S m = 0 → mWhole S.2.1 ∧ mHp I' (wW S.2.1 (w2n m)) ∧ I' 77 22 = nI 0) ∧ mwx [8] I I' ∧ mfx [83, 84, 85, 86, 89, 90] [11, 21, 22] I I' ∧ J = J') := by
  refine x_ent (by decide) (Nat.le_of_ble_eq_true rfl) rfl ?_
  show xT _ _ _ 0 [_, _, _, _, _, _, _, _] _ _ _
  refine xr_iload1 dX9_takeShort_0 rfl ?_
  refine xr_i2l dX9_takeShort_1 ?_
  refine xr_lc0 dX9_takeShort_2 ?_
  refine xr_ldc2 cs_9_291 dX9_takeShort_3 ?_
  refine xr_cSi [_, _, _] dX9_takeShort_6 (xcs_of cf_X9_in ml_9_99 (by decide)) rfl rfl (Nat.le_of_ble_eq_true rfl) (c9_in _ _ _) (fun v I1 J1 hc => ?_)
  obtain ⟨rfl, rfl, rfl⟩ := hc
  rw [in_ix (n := 6) (by decide)]
  refine xr_if_ne 14 dX9_takeShort_9 (by decide) (fun hm => ?_) (fun hm => ?_)
  rotate_left
  · have hm := is_n hm
    have e : sp_short S m = -1 := by simp [sp_short, hm]
    refine xr_icm1 dX9_takeShort_12 ?_
    refine xr_iret dX9_takeShort_13 rfl rfl ⟨by rw [e], fun q => by rw [e] at q; exact absurd q (by decide), mwx.rf, mfx.rf, rfl⟩
  obtain ⟨m', hm⟩ := is_s hm
  obtain ⟨hm6, rfl⟩ := ix_some hm
  have ew : w2n (nI m') = m' := w2n_nI (by omega)
  refine xr_aload0 dX9_takeShort_14 rfl ?_
  refine xr_cVi [] dX9_takeShort_15 (xcv_of cf_X9_isWhole ml_9_133 (by decide)) rfl lay_77 rfl rfl rfl (Nat.le_of_ble_eq_true rfl) (c9_isWhole h.2.1) (fun v I1 J1 hc => ?_)
  obtain ⟨rfl, rfl, rfl⟩ := hc
  refine xr_if_ne 24 dX9_takeShort_18 (by decide) (fun hwh => ?_) (fun hwh => ?_)
  rotate_left
  · have hwh := b2_0.mp hwh
    have e : sp_short S (nI m') = -5 := by simp [sp_short, hm, hwh]
    refine xr_bip bi_m5 dX9_takeShort_21 ?_
    refine xr_iret dX9_takeShort_23 rfl rfl ⟨by rw [e], fun q => by rw [e] at q; exact absurd q (by decide), mwx.rf, mfx.rf, rfl⟩
  have hwh : mW S.2.1 = true := by
    cases hq : mW S.2.1 with
    | true => rfl
    | false => rw [hq] at hwh; exact absurd rfl hwh
  have hwhole := mW_iff.mp hwh
  have e : sp_short S (nI m') = if 200 < (wW S.2.1 m').length then -7 else 0 := by simp [sp_short, hm, hwh]
  have hN8 := h.2.1.1.2.2.1
  have hml := mMarks_len S.2.1
  -- where too many have come
  have spent : ∀ I1 (hs : List (List Nat)), mHp I1 hs → 200 < hs.length → (∃ e, wW S.2.1 m' = hs ++ e) → mwx [8] I I1 → mfx [83, 84, 85, 86, 89, 90] [11, 21, 22] I I1 → ∀ n d (z2 fr : Int32) (z5 z6 z7 : Option Value), d + n = m' + 1 → xT G M_X9_takeShort (xMQ G (xpi fun v I' J' => v = sp_short S (nI m') ∧ (sp_short S (nI m') = 0 → mWhole S.2.1 ∧ mHp I' (wW S.2.1 (w2n (nI m'))) ∧ I' 77 22 = nI 0) ∧ mwx [8] I I' ∧ mfx [83, 84, 85, 86, 89, 90] [11, 21, 22] I I' ∧ J = J')) 52 [some (.ref (G.1 77)), some (.int (nI m')), some (.int z2), some (.int fr), some (.int (nI n)), z5, z6, z7] [] I1 J := by
    intro I1 hs H1 hgt hpre x1 f1 n d
    obtain ⟨ee, hee⟩ := hpre
    have hl := H1.2.1
    induction d generalizing n with
    | zero =>
      intro z2 fr z5 z6 z7 hn
      refine xr_iload dX9_takeShort_52 rfl ?_
      refine xr_iload1 dX9_takeShort_54 rfl ?_
      refine xr_icmp_gt 171 dX9_takeShort_55 (by decide) (fun hc => ?_) (fun hc => ?_)
      rotate_left
      · exact absurd (nI_lt (a := m') (b := n) (by omega) (by omega)) hc
      refine xr_aload0 dX9_takeShort_171 rfl ?_
      refine xr_getIv dX9_takeShort_172 fk_9_178 lay_77 rfl H1.1 ?_
      refine xr_sip si_200 dX9_takeShort_175 ?_
      refine xr_icmp_le 186 dX9_takeShort_178 (by decide) (fun hle => ?_) (fun hle => ?_)
      · have : hs.length ≤ 200 := nle (a := 200) (b := hs.length) hle
        omega
      have e2 : sp_short S (nI m') = -7 := by rw [e, if_pos (by rw [hee, List.length_append]; omega)]
      refine xr_bip bi_m7 dX9_takeShort_181 ?_
      refine xr_goto 187 dX9_takeShort_183 (by decide) ?_
      refine xr_iret dX9_takeShort_187 rfl rfl ⟨by rw [e2], fun q => by rw [e2] at q; exact absurd q (by decide), x1, f1, rfl⟩
    | succ d IH =>
      intro z2 fr z5 z6 z7 hn
      refine xr_iload dX9_takeShort_52 rfl ?_
      refine xr_iload1 dX9_takeShort_54 rfl ?_
      refine xr_icmp_gt 171 dX9_takeShort_55 (by decide) (fun hc => ?_) (fun hc => ?_)
      · have := nltl hc (by omega) (by omega)
        omega
      refine xr_aload0 dX9_takeShort_58 rfl ?_
      refine xr_getIv dX9_takeShort_59 fk_9_178 lay_77 rfl H1.1 ?_
      refine xr_istore dX9_takeShort_62 (Nat.le_of_ble_eq_true rfl) ?_
      show xT _ _ _ 64 [_, _, _, _, _, _, _, _] _ _ _
      refine xr_iload3 dX9_takeShort_64 rfl ?_
      refine xr_istore dX9_takeShort_65 (Nat.le_of_ble_eq_true rfl) ?_
      show xT _ _ _ 67 [_, _, _, _, _, _, _, _] _ _ _
      refine xr_iload dX9_takeShort_67 rfl ?_
      refine xr_iload dX9_takeShort_69 rfl ?_
      have nxt : ∀ (z6 : Option Value), xT G M_X9_takeShort (xMQ G (xpi fun v I' J' => v = sp_short S (nI m') ∧ (sp_short S (nI m') = 0 → mWhole S.2.1 ∧ mHp I' (wW S.2.1 (w2n (nI m'))) ∧ I' 77 22 = nI 0) ∧ mwx [8] I I' ∧ mfx [83, 84, 85, 86, 89, 90] [11, 21, 22] I I' ∧ J = J')) 162 [some (.ref (G.1 77)), some (.int (nI m')), some (.int z2), some (.int fr), some (.int (nI n)), some (.int (nI hs.length)), z6, z7] [] I1 J := by
        intro z6
        refine xr_iload dX9_takeShort_162 rfl ?_
        refine xr_istore3 dX9_takeShort_164 (Nat.le_of_ble_eq_true rfl) ?_
        show xT _ _ _ 165 [_, _, _, _, _, _, _, _] _ _ _
        refine xr_iinc dX9_takeShort_165 rfl ii_1 (Nat.le_of_ble_eq_true rfl) ?_
        show xT _ _ _ 168 [_, _, _, _, _, _, _, _] _ _ _
        refine xr_goto 52 dX9_takeShort_168 (by decide) ?_
        rw [k_1, nI_add]
        exact IH (n + 1) _ _ _ _ _ (by omega)
      refine xr_icmp_ge 162 dX9_takeShort_71 (by decide) (fun hc2 => ?_) (fun hc2 => ?_)
      · exact nxt _
      refine xr_aload0 dX9_takeShort_74 rfl ?_
      refine xr_getIv dX9_takeShort_75 fk_9_178 lay_77 rfl H1.1 ?_
      refine xr_sip si_200 dX9_takeShort_78 ?_
      refine xr_icmp_gt 162 dX9_takeShort_81 (by decide) (fun hc3 => ?_) (fun hc3 => ?_)
      · exact nxt _
      · exact absurd (nI_lt (a := 200) (b := hs.length) hgt (by omega)) hc3
  -- the layers
  have L : ∀ n I1 b (z2 : Int32) (z5 z6 z7 : Option Value), n ≤ m' → mHp I1 (wW S.2.1 n) → (wW S.2.1 n).length ≤ 200 → (wW S.2.1 n).length = b + (wlay S.2.1 n).length → (∀ j, j < (wlay S.2.1 n).length → (wW S.2.1 n)[b + j]? = some ((wlay S.2.1 n).getD j [])) → mTk I1 S.2.1 → I1 77 22 = nI 0 → mwx [8] I I1 → mfx [83, 84, 85, 86, 89, 90] [11, 21, 22] I I1 → xT G M_X9_takeShort (xMQ G (xpi fun v I' J' => v = sp_short S (nI m') ∧ (sp_short S (nI m') = 0 → mWhole S.2.1 ∧ mHp I' (wW S.2.1 (w2n (nI m'))) ∧ I' 77 22 = nI 0) ∧ mwx [8] I I' ∧ mfx [83, 84, 85, 86, 89, 90] [11, 21, 22] I I' ∧ J = J')) 52 [some (.ref (G.1 77)), some (.int (nI m')), some (.int z2), some (.int (nI b)), some (.int (nI (n + 1))), z5, z6, z7] [] I1 J := by
    intro n
    obtain ⟨d, hd⟩ : ∃ d, d + n = m' ∨ m' < n := ⟨m' - n, by omega⟩
    induction d generalizing n with
    | zero =>
      intro I1 b z2 z5 z6 z7 hn H1 hl hb hat tk1 z22 x1 f1
      have hnm : n = m' := by omega
      subst hnm
      refine xr_iload dX9_takeShort_52 rfl ?_
      refine xr_iload1 dX9_takeShort_54 rfl ?_
      refine xr_icmp_gt 171 dX9_takeShort_55 (by decide) (fun hc => ?_) (fun hc => ?_)
      rotate_left
      · exact absurd (nI_lt (a := n) (b := n + 1) (by omega) (by omega)) hc
      refine xr_aload0 dX9_takeShort_171 rfl ?_
      refine xr_getIv dX9_takeShort_172 fk_9_178 lay_77 rfl H1.1 ?_
      refine xr_sip si_200 dX9_takeShort_175 ?_
      refine xr_icmp_le 186 dX9_takeShort_178 (by decide) (fun hle => ?_) (fun hle => ?_)
      rotate_left
      · exact absurd ((nI_leI (a := (wW S.2.1 n).length) (b := 200) (by omega) (by decide)).mpr hl) hle
      have e2 : sp_short S (nI n) = 0 := by rw [e, if_neg (by omega)]
      refine xr_ic0 dX9_takeShort_186 ?_
      refine xr_iret dX9_takeShort_187 rfl rfl ⟨by rw [e2], fun _ => ⟨hwhole, by rw [ew]; exact H1, z22⟩, x1, f1, rfl⟩
    | succ d IH =>
      intro I1 b z2 z5 z6 z7 hn H1 hl hb hat tk1 z22 x1 f1
      have hnm : n < m' := by omega
      refine xr_iload dX9_takeShort_52 rfl ?_
      refine xr_iload1 dX9_takeShort_54 rfl ?_
      refine xr_icmp_gt 171 dX9_takeShort_55 (by decide) (fun hc => ?_) (fun hc => ?_)
      · have := nltl hc (by omega) (by omega)
        omega
      refine xr_aload0 dX9_takeShort_58 rfl ?_
      refine xr_getIv dX9_takeShort_59 fk_9_178 lay_77 rfl H1.1 ?_
      refine xr_istore dX9_takeShort_62 (Nat.le_of_ble_eq_true rfl) ?_
      show xT _ _ _ 64 [_, _, _, _, _, _, _, _] _ _ _
      refine xr_iload3 dX9_takeShort_64 rfl ?_
      refine xr_istore dX9_takeShort_65 (Nat.le_of_ble_eq_true rfl) ?_
      show xT _ _ _ 67 [_, _, _, _, _, _, _, _] _ _ _
      obtain ⟨eW, heW⟩ := wW_le (M := S.2.1) (show n + 1 ≤ m' by omega)
      -- over the words of the layer
      have L2 : ∀ k, k ≤ (wlay S.2.1 n).length → ∀ I2 (z2 : Int32) (z7 : Option Value), mHp I2 (wHalf S.2.1 n k 0) → (wHalf S.2.1 n k 0).length ≤ 200 → mTk I2 S.2.1 → I2 77 22 = nI 0 → mwx [8] I I2 → mfx [83, 84, 85, 86, 89, 90] [11, 21, 22] I I2 → xT G M_X9_takeShort (xMQ G (xpi fun v I' J' => v = sp_short S (nI m') ∧ (sp_short S (nI m') = 0 → mWhole S.2.1 ∧ mHp I' (wW S.2.1 (w2n (nI m'))) ∧ I' 77 22 = nI 0) ∧ mwx [8] I I' ∧ mfx [83, 84, 85, 86, 89, 90] [11, 21, 22] I I' ∧ J = J')) 67 [some (.ref (G.1 77)), some (.int (nI m')), some (.int z2), some (.int (nI b)), some (.int (nI (n + 1))), some (.int (nI (wW S.2.1 n).length)), some (.int (nI (b + k))), z7] [] I2 J := by
        refine x_for (fun k hk IH2 I2 z2 z7 H2 hl2 tk2 z222 x2 f2 => ?_)
        refine xr_iload dX9_takeShort_67 rfl ?_
        refine xr_iload dX9_takeShort_69 rfl ?_
        refine xr_icmp_ge 162 dX9_takeShort_71 (by decide) (fun hc2 => ?_) (fun hc2 => ?_)
        · have hkk : k = (wlay S.2.1 n).length := by have := nle hc2; omega
          rw [hkk, wHalf_all] at H2 hl2
          obtain ⟨b', hb', hat'⟩ := wW_len1 S.2.1 (n + 1)
          have hbb : b' = (wW S.2.1 n).length := by
            have : (wW S.2.1 (n + 1)).length = (wW S.2.1 n).length + (wlay S.2.1 (n + 1)).length := by simp [wW]
            omega
          subst hbb
          refine xr_iload dX9_takeShort_162 rfl ?_
          refine xr_istore3 dX9_takeShort_164 (Nat.le_of_ble_eq_true rfl) ?_
          show xT _ _ _ 165 [_, _, _, _, _, _, _, _] _ _ _
          refine xr_iinc dX9_takeShort_165 rfl ii_1 (Nat.le_of_ble_eq_true rfl) ?_
          show xT _ _ _ 168 [_, _, _, _, _, _, _, _] _ _ _
          refine xr_goto 52 dX9_takeShort_168 (by decide) ?_
          rw [k_1, nI_add]
          exact IH (n + 1) (by omega) I2 _ _ _ _ _ (by omega) H2 hl2 hb' hat' tk2 z222 x2 f2
        · have hkl : k < (wlay S.2.1 n).length := by have := nlt hc2; omega
          have IH2 := IH2 hkl
          refine xr_aload0 dX9_takeShort_74 rfl ?_
          refine xr_getIv dX9_takeShort_75 fk_9_178 lay_77 rfl H2.1 ?_
          refine xr_sip si_200 dX9_takeShort_78 ?_
          refine xr_icmp_gt 162 dX9_takeShort_81 (by decide) (fun hc3 => ?_) (fun hc3 => ?_)
          · have : 200 < (wHalf S.2.1 n k 0).length := nltl (a := 200) hc3
            omega
          refine xr_ic0 dX9_takeShort_84 ?_
          refine xr_istore dX9_takeShort_85 (Nat.le_of_ble_eq_true rfl) ?_
          show xT _ _ _ 87 [_, _, _, _, _, _, _, _] _ _ _
          have hwk : (wW S.2.1 n)[b + k]? = some ((wlay S.2.1 n).getD k []) := hat k hkl
          have hmemk : (wlay S.2.1 n).getD k [] ∈ wlay S.2.1 n := by rw [getD_lt hkl]; exact List.getElem_mem hkl
          obtain ⟨wo, wr⟩ := wlay_good hmemk
          have wl := wlay_len hmemk
          -- over the marks
          have L3 : ∀ t, t ≤ (mMarks S.2.1).length → ∀ I3 (z2 : Int32), mHp I3 (wHalf S.2.1 n k t) → mTk I3 S.2.1 → I3 77 22 = nI 0 → mwx [8] I I3 → mfx [83, 84, 85, 86, 89, 90] [11, 21, 22] I I3 → xT G M_X9_takeShort (xMQ G (xpi fun v I' J' => v = sp_short S (nI m') ∧ (sp_short S (nI m') = 0 → mWhole S.2.1 ∧ mHp I' (wW S.2.1 (w2n (nI m'))) ∧ I' 77 22 = nI 0) ∧ mwx [8] I I' ∧ mfx [83, 84, 85, 86, 89, 90] [11, 21, 22] I I' ∧ J = J')) 87 [some (.ref (G.1 77)), some (.int (nI m')), some (.int z2), some (.int (nI b)), some (.int (nI (n + 1))), some (.int (nI (wW S.2.1 n).length)), some (.int (nI (b + k))), some (.int (nI t))] [] I3 J := by
            refine x_for (fun t ht IH3 I3 z2 H3 tk3 z322 x3 f3 => ?_)
            have h3201 := H3.2.1
            obtain ⟨e3, he3⟩ := wHalf_pre (M := S.2.1) (n := n) (k := k) (t := t) rfl (by omega) ht (fun q => by omega)
            -- too many: out of all loops
            have over : 200 < (wHalf S.2.1 n k t).length → xT G M_X9_takeShort (xMQ G (xpi fun v I' J' => v = sp_short S (nI m') ∧ (sp_short S (nI m') = 0 → mWhole S.2.1 ∧ mHp I' (wW S.2.1 (w2n (nI m'))) ∧ I' 77 22 = nI 0) ∧ mwx [8] I I' ∧ mfx [83, 84, 85, 86, 89, 90] [11, 21, 22] I I' ∧ J = J')) 156 [some (.ref (G.1 77)), some (.int (nI m')), some (.int z2), some (.int (nI b)), some (.int (nI (n + 1))), some (.int (nI (wW S.2.1 n).length)), some (.int (nI (b + k))), some (.int (nI t))] [] I3 J := by
              intro hov
              refine xr_iinc dX9_takeShort_156 rfl ii_1 (Nat.le_of_ble_eq_true rfl) ?_
              show xT _ _ _ 159 [_, _, _, _, _, _, _, _] _ _ _
              refine xr_goto 67 dX9_takeShort_159 (by decide) ?_
              refine xr_iload dX9_takeShort_67 rfl ?_
              refine xr_iload dX9_takeShort_69 rfl ?_
              have fin2 : ∀ (z6 : Option Value), xT G M_X9_takeShort (xMQ G (xpi fun v I' J' => v = sp_short S (nI m') ∧ (sp_short S (nI m') = 0 → mWhole S.2.1 ∧ mHp I' (wW S.2.1 (w2n (nI m'))) ∧ I' 77 22 = nI 0) ∧ mwx [8] I I' ∧ mfx [83, 84, 85, 86, 89, 90] [11, 21, 22] I I' ∧ J = J')) 162 [some (.ref (G.1 77)), some (.int (nI m')), some (.int z2), some (.int (nI b)), some (.int (nI (n + 1))), some (.int (nI (wW S.2.1 n).length)), z6, some (.int (nI t))] [] I3 J := by
                intro z6
                refine xr_iload dX9_takeShort_162 rfl ?_
                refine xr_istore3 dX9_takeShort_164 (Nat.le_of_ble_eq_true rfl) ?_
                show xT _ _ _ 165 [_, _, _, _, _, _, _, _] _ _ _
                refine xr_iinc dX9_takeShort_165 rfl ii_1 (Nat.le_of_ble_eq_true rfl) ?_
                show xT _ _ _ 168 [_, _, _, _, _, _, _, _] _ _ _
                refine xr_goto 52 dX9_takeShort_168 (by decide) ?_
                rw [k_1, nI_add]
                exact spent I3 _ H3 hov ⟨e3 ++ eW, by rw [heW, he3, List.append_assoc]⟩ x3 f3 (n + 1 + 1) (m' + 1 - (n + 2)) _ _ _ _ _ (by omega)
              refine xr_icmp_ge 162 dX9_takeShort_71 (by decide) (fun hc4 => ?_) (fun hc4 => ?_)
              · exact fin2 _
              refine xr_aload0 dX9_takeShort_74 rfl ?_
              refine xr_getIv dX9_takeShort_75 fk_9_178 lay_77 rfl H3.1 ?_
              refine xr_sip si_200 dX9_takeShort_78 ?_
              refine xr_icmp_gt 162 dX9_takeShort_81 (by decide) (fun hc5 => ?_) (fun hc5 => ?_)
              · exact fin2 _
              · exact absurd (nI_lt (a := 200) (b := (wHalf S.2.1 n k t).length) hov (by omega)) hc5
            refine xr_iload dX9_takeShort_87 rfl ?_
            refine xr_aload0 dX9_takeShort_89 rfl ?_
            refine xr_getIv dX9_takeShort_90 fk_9_127 lay_77 rfl tk3.1 ?_
            refine xr_icmp_ge 156 dX9_takeShort_93 (by decide) (fun hc4 => ?_) (fun hc4 => ?_)
            · have htt : t = (mMarks S.2.1).length := by have := nle hc4; omega
              by_cases hov : 200 < (wHalf S.2.1 n k t).length
              · exact over hov
              · rw [htt, wHalf_end hkl] at H3 hov
                refine xr_iinc dX9_takeShort_156 rfl ii_1 (Nat.le_of_ble_eq_true rfl) ?_
                show xT _ _ _ 159 [_, _, _, _, _, _, _, _] _ _ _
                refine xr_goto 67 dX9_takeShort_159 (by decide) ?_
                rw [k_1, nI_add]
                exact IH2 I3 _ _ H3 (by omega) tk3 z322 x3 f3
            · have htl := nlt hc4
              have IH3 := IH3 htl
              refine xr_aload0 dX9_takeShort_96 rfl ?_
              refine xr_getIv dX9_takeShort_97 fk_9_178 lay_77 rfl H3.1 ?_
              refine xr_sip si_200 dX9_takeShort_100 ?_
              refine xr_icmp_gt 156 dX9_takeShort_103 (by decide) (fun hc5 => ?_) (fun hc5 => ?_)
              · have hov : 200 < (wHalf S.2.1 n k t).length := nltl (a := 200) hc5
                exact over hov
              have hle3 : (wHalf S.2.1 n k t).length ≤ 200 := nnlt (a := 200) hc5
              have hat3 : (wHalf S.2.1 n k t)[b + k]? = some ((wlay S.2.1 n).getD k []) := by
                unfold wHalf
                rw [List.append_assoc, List.getElem?_append_left (List.getElem?_eq_some_iff.mp hwk).1]
                exact hwk
              obtain ⟨hbk, hbe⟩ := List.getElem?_eq_some_iff.mp hat3
              refine xr_aload0 dX9_takeShort_106 rfl ?_
              refine xr_iload dX9_takeShort_107 rfl ?_
              refine xr_bip bi_8 dX9_takeShort_109 ?_
              refine xr_cVv [_, _] dX9_takeShort_111 (xcv_of cf_X9_fromHeap ml_9_188 (by decide)) rfl lay_77 rfl rfl rfl (Nat.le_of_ble_eq_true rfl) (c9_fromHeap H3 hbk (by decide)) (fun I4 J4 hc => ?_)
              obtain ⟨d4, x4, f4, rfl⟩ := hc
              rw [hbe] at d4
              have hmo := mMarks_ok S.2.1 _ (List.getElem_mem htl)
              have tk4 : I4 86 t = tok (mMarks S.2.1)[t] := by
                rw [f4.1 86 (by decide) (by decide)]
                have := tk3.2 t htl
                rw [Nat.zero_add] at this
                exact this
              refine xr_aload0 dX9_takeShort_114 rfl ?_
              refine xr_bip bi_8 dX9_takeShort_115 ?_
              refine xr_aload0 dX9_takeShort_117 rfl ?_
              refine xr_getR dX9_takeShort_118 fk_9_39 lay_77 rfl ?_
              refine xr_iload dX9_takeShort_121 rfl ?_
              refine xr_ialdv _ dX9_takeShort_123 lay_86 rfl (by omega) (by decide) tk4 ?_
              refine xr_cVv [_, _] dX9_takeShort_124 (xcv_of cf_X9_add ml_9_144 (by decide)) rfl lay_77 rfl rfl rfl (Nat.le_of_ble_eq_true rfl) (c9_add (by decide) d4 (by omega) (by have := hmo.1; omega) (fun q hq => wo.lt hN8 hq)) (fun I5 J5 hc => ?_)
              obtain ⟨d5, x5, f5, rfl⟩ := hc
              have f35 : mfx [83, 84, 85, 86, 89, 90] [11, 21, 22] I I5 := (f3.tr (f4.mono (by simp) (by simp))).tr (f5.mono (by simp) (by simp))
              have x35 : mwx [8] I I5 := (x3.tr x4).tr x5
              have H5 : mHp I5 (wHalf S.2.1 n k t) := f5.hp (f4.hp H3 (by decide) (by decide)) (by decide) (by decide)
              have tk5 : mTk I5 S.2.1 := ⟨by rw [f5.2 11 (by decide), f4.2 11 (by decide)]; exact tk3.1, by rw [f5.1 86 (by decide) (by decide), f4.1 86 (by decide) (by decide)]; exact tk3.2⟩
              have z522 : I5 77 22 = nI 0 := by rw [f5.2 22 (by decide), f4.2 22 (by decide)]; exact z322
              have hstep := wHalf_step (M := S.2.1) (n := n) (k := k) htl
              have hp1 := wpush_len ((wlay S.2.1 n).getD k []) (mMarks S.2.1)[t]
              refine xr_aload0 dX9_takeShort_127 rfl ?_
              refine xr_getR dX9_takeShort_128 fk_9_32 lay_77 rfl ?_
              refine xr_bip bi_8 dX9_takeShort_131 ?_
              refine xr_ialdv 8 dX9_takeShort_133 lay_84 (by (try simp only [k_0, k_1, k_2, k_3, k_4, k_5, k_8, k_16, k_34, k_40, k_200, k_201, k_256, k_512, nI_add, pk_mul]); first | done | rfl) (by omega) (by decide) d5.1 ?_
              refine xr_iload dX9_takeShort_134 rfl ?_
              by_cases hcan : ((wlay S.2.1 n).getD k []).getLast? = some (opp (mMarks S.2.1)[t])
              · rw [if_pos hcan] at hstep
                have hpl : (wpush ((wlay S.2.1 n).getD k []) (mMarks S.2.1)[t]).length ≠ n + 1 := by
                  rw [wpush, if_pos hcan, List.length_dropLast]
                  omega
                refine xr_icmp_ne 148 dX9_takeShort_136 (by decide) (fun hne => ?_) (fun hne => ?_)
                rotate_left
                · exact absurd ((nI_eq (by omega) (by omega)).mp hne) hpl
                refine xr_iload2 dX9_takeShort_148 rfl ?_
                refine xr_istore2 dX9_takeShort_149 (Nat.le_of_ble_eq_true rfl) ?_
                show xT _ _ _ 150 [_, _, _, _, _, _, _, _] _ _ _
                refine xr_iinc dX9_takeShort_150 rfl ii_1 (Nat.le_of_ble_eq_true rfl) ?_
                show xT _ _ _ 153 [_, _, _, _, _, _, _, _] _ _ _
                refine xr_goto 87 dX9_takeShort_153 (by decide) ?_
                rw [k_1, nI_add]
                rw [hstep] at IH3
                exact IH3 I5 _ H5 tk5 z522 x35 f35
              · rw [if_neg hcan] at hstep
                have hpe : wpush ((wlay S.2.1 n).getD k []) (mMarks S.2.1)[t] = (wlay S.2.1 n).getD k [] ++ [(mMarks S.2.1)[t]] := by rw [wpush, if_neg hcan]
                have hpl : (wpush ((wlay S.2.1 n).getD k []) (mMarks S.2.1)[t]).length = n + 1 := by rw [hpe, List.length_append, wl]; rfl
                refine xr_icmp_ne 148 dX9_takeShort_136 (by decide) (fun hne => ?_) (fun hne => ?_)
                · exact absurd (by rw [hpl]) hne
                have hgood : ∀ a ∈ wHalf S.2.1 n k t, ∀ q ∈ a, q < 16 := fun a ha q hq => by
                  have : a ∈ wW S.2.1 (n + 1) := by rw [he3]; exact List.mem_append_left _ ha
                  exact (wW_mem.mp this).1.lt hN8 hq
                refine xr_aload0 dX9_takeShort_139 rfl ?_
                refine xr_bip bi_8 dX9_takeShort_140 ?_
                refine xr_cVi [_] dX9_takeShort_142 (xcv_of cf_X9_toHeap ml_9_191 (by decide)) rfl lay_77 rfl rfl rfl (Nat.le_of_ble_eq_true rfl) (c9_toHeap H5 hgood (by decide) d5 (by omega) (fun q hq => (wo.push hmo).lt hN8 hq)) (fun v I6 J6 hc => ?_)
                obtain ⟨⟨o, hs6, rfl, to6, H6⟩, f6, rfl⟩ := hc
                have hnew : wpush ((wlay S.2.1 n).getD k []) (mMarks S.2.1)[t] ∉ wHalf S.2.1 n k t := by
                  intro q
                  obtain ⟨e4, he4⟩ := wHalf_pre (M := S.2.1) (n := n) (k := k) (t := t + 1) rfl (by omega) (by omega) (fun q => by omega)
                  have hnd := wW_nodup S.2.1 (n + 1)
                  rw [he4, hstep, ← hpe, List.append_assoc, List.nodup_append] at hnd
                  exact hnd.2.2 _ q _ (by simp) rfl
                have hs6e : hs6 = wHalf S.2.1 n k (t + 1) := by
                  rw [hstep, ← hpe]
                  rcases to6 with ⟨j, -, ⟨h1, h2⟩, -⟩ | ⟨-, -, -, h2⟩ | ⟨-, h1, -, -⟩
                  · exact absurd (by rw [← h2]; exact List.getElem_mem h1) hnew
                  · exact h2
                  · omega
                rw [hs6e] at H6
                refine xr_goto 149 dX9_takeShort_145 (by decide) ?_
                refine xr_istore2 dX9_takeShort_149 (Nat.le_of_ble_eq_true rfl) ?_
                show xT _ _ _ 150 [_, _, _, _, _, _, _, _] _ _ _
                refine xr_iinc dX9_takeShort_150 rfl ii_1 (Nat.le_of_ble_eq_true rfl) ?_
                show xT _ _ _ 153 [_, _, _, _, _, _, _, _] _ _ _
                refine xr_goto 87 dX9_takeShort_153 (by decide) ?_
                rw [k_1, nI_add]
                exact IH3 I6 _ H6 ⟨by rw [f6.2 11 (by decide)]; exact tk5.1, by rw [f6.1 86 (by decide) (by decide)]; exact tk5.2⟩ (by rw [f6.2 22 (by decide)]; exact z522) (x35.tr (mwx.of (f6.1 83 (by decide) (by decide)) (f6.1 84 (by decide) (by decide)))) (f35.tr (f6.mono (by simp) (by simp)))
          exact L3 0 (Nat.zero_le _) I2 _ H2 tk2 z222 x2 f2
      exact L2 0 (Nat.zero_le _) I1 _ _ (by rw [wHalf_0]; exact H1) (by rw [wHalf_0]; exact hl) tk1 z22 x1 f1
  refine xr_aload0 dX9_takeShort_24 rfl ?_
  refine xr_cVv [] dX9_takeShort_25 (xcv_of cf_X9_findTokens ml_9_130 (by decide)) rfl lay_77 rfl rfl rfl (Nat.le_of_ble_eq_true rfl) (c9_findTokens h.2.1) (fun I1 J1 hc => ?_)
  obtain ⟨tk1, f1, rfl⟩ := hc
  refine xr_aload0 dX9_takeShort_28 rfl ?_
  refine xr_cVv [] dX9_takeShort_29 (xcv_of cf_X9_beginHeap ml_9_200 (by decide)) rfl lay_77 rfl rfl rfl (Nat.le_of_ble_eq_true rfl) (c9_beginHeap) (fun I2 J2 hc => ?_)
  obtain ⟨H2, z2, f2, rfl⟩ := hc
  refine xr_aload0 dX9_takeShort_32 rfl ?_
  refine xr_getR dX9_takeShort_33 fk_9_32 lay_77 rfl ?_
  refine xr_bip bi_8 dX9_takeShort_36 ?_
  refine xr_ic0 dX9_takeShort_38 ?_
  refine xr_iast 8 dX9_takeShort_39 lay_84 rfl (by decide) (by decide) ?_
  generalize hI3 : va_up I2 84 (upd (I2 84) 8 0) = I3
  have f3 : mfx [83, 84, 85, 86, 89, 90] [11, 21, 22] I I3 := by rw [← hI3]; exact ((f1.mono (by simp) (by simp)).tr (f2.mono (by simp) (by simp))).up _ (by decide) (by decide)
  have x3 : mwx [8] I I3 := fun v hv hvw => by
    have hvw' : v ≠ 8 := fun q => hvw (by rw [q]; exact List.mem_singleton.mpr rfl)
    rw [← hI3, up_same, upd_ne _ _ hvw', va_up_ne _ _ (by decide), f2.1 84 (by decide) (by decide), f2.1 83 (by decide) (by decide), f1.1 84 (by decide) (by decide), f1.1 83 (by decide) (by decide)]
    exact ⟨rfl, fun _ _ => rfl⟩
  have d3 : mWd I3 8 [] := ⟨by rw [← hI3, up_same, upd_same]; rfl, fun i hi => absurd hi (Nat.not_lt_zero _)⟩
  have H3 : mHp I3 [] := by rw [← hI3]; exact H2.cg (by rw [va_up_ne _ _ (by decide)]) (by rw [va_up_ne _ _ (by decide)]) (by rw [va_up_ne _ _ (by decide)])
  refine xr_aload0 dX9_takeShort_40 rfl ?_
  refine xr_bip bi_8 dX9_takeShort_41 ?_
  refine xr_cVi [_] dX9_takeShort_43 (xcv_of cf_X9_toHeap ml_9_191 (by decide)) rfl lay_77 rfl rfl rfl (Nat.le_of_ble_eq_true rfl) (c9_toHeap H3 (fun a h => by cases h) (by decide) d3 (by simp) (fun q hq => by cases hq)) (fun v I4 J4 hc => ?_)
  obtain ⟨⟨o, hs4, rfl, to4, H4⟩, f4, rfl⟩ := hc
  have hs4e : hs4 = wW S.2.1 0 := by
    rcases to4 with ⟨j, -, ⟨h1, -⟩, -⟩ | ⟨-, -, -, h2⟩ | ⟨-, h1, -, -⟩
    · simp at h1
    · exact h2
    · simp at h1
  rw [hs4e] at H4
  refine xr_istore2 dX9_takeShort_46 (Nat.le_of_ble_eq_true rfl) ?_
  show xT _ _ _ 47 [_, _, _, _, _, _, _, _] _ _ _
  refine xr_ic0 dX9_takeShort_47 ?_
  refine xr_istore3 dX9_takeShort_48 (Nat.le_of_ble_eq_true rfl) ?_
  show xT _ _ _ 49 [_, _, _, _, _, _, _, _] _ _ _
  refine xr_ic1 dX9_takeShort_49 ?_
  refine xr_istore dX9_takeShort_50 (Nat.le_of_ble_eq_true rfl) ?_
  show xT _ _ _ 52 [_, _, _, _, _, _, _, _] _ _ _
  refine L 0 I4 0 _ _ _ _ (Nat.zero_le _) H4 (by simp [wW]) (by simp [wW, wlay]) (fun j hj => by
    have : j = 0 := by simp [wlay] at hj; omega
    subst this; rfl) ⟨?_, ?_⟩ ?_ (x3.tr (mwx.of (f4.1 83 (by decide) (by decide)) (f4.1 84 (by decide) (by decide)))) (f3.tr (f4.mono (by simp) (by simp)))
  · rw [f4.2 11 (by decide), ← hI3, va_up_ne _ _ (by decide), f2.2 11 (by decide)]; exact tk1.1
  · rw [f4.1 86 (by decide) (by decide), ← hI3, va_up_ne _ _ (by decide), f2.1 86 (by decide) (by decide)]; exact tk1.2
  · rw [f4.2 22 (by decide), ← hI3, va_up_ne _ _ (by decide)]; exact z2
end M28
