section C40
variable {G : xG} {I : xI} {J : xJ}
theorem wW_1 (M : xMac) : wW M 1 = [[]] ++ wx M [] := by
  show [[]] ++ ([[]] : List (List Nat)).flatMap (wx M) = _
  simp
theorem wW_1_len {M : xMac} (hM : mOk M) : (wW M 1).length ≤ 17 := by
  have h1 := mMarks_len M
  have h2 := hM.2.2.1
  rw [← fallF0_eq]
  unfold fallF0
  simp
  omega
theorem fallGo_big {M : xMac} {d f k : Nat} {F Sn : List (List Nat)} {w : List Nat} (hk : F[k]? = some w) (h : 20 < ((cands M d w).foldl (addU M) F).length) : fallGo M d (f + 1) k F Sn = none := by
  unfold fallGo
  rw [hk]
  dsimp only
  split
  · rfl
  · split
    · rfl
    · first | rfl | rw [if_pos h]
noncomputable def sp_gf (S : xSt) (d : Int32) : Int32 := if sp_fall S d < 0 then sp_fall S d else 0
def gfR (I : xI) (J : xJ) (M : xMac) (F : List (List Nat)) : Prop := F.length ≤ 20 ∧ I 56 6 = nI F.length ∧ ∃ hs, pWd I J 57 hs ∧ (∀ a ∈ hs, wGood M a) ∧ ∀ k (hk : k < F.length), ∃ j, I 74 k = nI j ∧ hs[j]? = some F[k]
theorem c6_gatherFallen {S : xSt} (hm : cMc I S.2.1) (hsw : cSw I J S.2.1) (d : Int32) : xCon G M_X6_gatherFallen [.ref (G.1 56), .ref (G.1 21), .int d] I J (xpi fun v I' J' => v = sp_gf S d ∧ cSw I' J' S.2.1 ∧ (¬ sp_fall S d < 0 → ∃ F, fallOf S.2.1 (w2n d) = some F ∧ sp_fall S d = nI F.length ∧ gfR I' J' S.2.1 F) ∧ cfx [56, 57, 58, 59, 60, 61, 62, 63, 64, 65, 66, 67, 68, 69, 70, 71, 72, 73, 74, 75, 76] I J I' J') := by
  have hM := hm.1.1
  have K10 : ¬ (1 ≤ d ∧ d ≤ 2) → xT G M_X6_gatherFallen (xMQ G (xpi fun v I' J' => v = sp_gf S d ∧ cSw I' J' S.2.1 ∧ (¬ sp_fall S d < 0 → ∃ F, fallOf S.2.1 (w2n d) = some F ∧ sp_fall S d = nI F.length ∧ gfR I' J' S.2.1 F) ∧ cfx [56, 57, 58, 59, 60, 61, 62, 63, 64, 65, 66, 67, 68, 69, 70, 71, 72, 73, 74, 75, 76] I J I' J')) 10 [some (.ref (G.1 56)), some (.ref (G.1 21)), some (.int d), none] [] I J := by
    intro hn
    have e : sp_fall S d = -1 := by unfold sp_fall; rw [if_neg hn]
    have e2 : sp_gf S d = -1 := by unfold sp_gf; rw [e]; rfl
    rw [e2, e]
    refine xr_icm1 dX6_gatherFallen_10 ?_
    refine xr_iret dX6_gatherFallen_11 rfl rfl ⟨rfl, hsw, fun q => absurd (by decide) q, cfx.rf⟩
  refine x_ent (by decide) (Nat.le_of_ble_eq_true rfl) rfl ?_
  show xT _ _ _ 0 [_, _, _, _] _ _ _
  refine xr_iload2 dX6_gatherFallen_0 rfl ?_
  refine xr_ic1 dX6_gatherFallen_1 ?_
  refine xr_icmp_lt 10 dX6_gatherFallen_2 (by decide) (fun h0 => ?_) (fun h0 => ?_)
  · exact K10 (fun q => by rw [lt_toInt, ti_1] at h0; rw [le_toInt, ti_1] at q; omega)
  refine xr_iload2 dX6_gatherFallen_5 rfl ?_
  refine xr_ic2 dX6_gatherFallen_6 ?_
  refine xr_icmp_le 12 dX6_gatherFallen_7 (by decide) (fun h1 => ?_) (fun h1 => ?_)
  rotate_left
  · exact K10 (fun q => h1 q.2)
  have hd : 1 ≤ d ∧ d ≤ 2 := ⟨by rw [lt_toInt, ti_1] at h0; rw [le_toInt, ti_1]; omega, h1⟩
  obtain ⟨d', hd', rfl, ew⟩ := fall_d hd
  have hd2 : d' ≤ 2 := by omega
  refine xr_aload1 dX6_gatherFallen_12 rfl ?_
  refine xr_getIv dX6_gatherFallen_13 fk_6_52 lay_21 rfl hm.2.2.1 ?_
  refine xr_if_ne 22 dX6_gatherFallen_16 (by decide) (fun hwh => ?_) (fun hwh => ?_)
  rotate_left
  · have hwh := b2_0.mp hwh
    have e : sp_fall S (nI d') = -5 := by unfold sp_fall; rw [if_pos hd, if_pos hwh]
    have e2 : sp_gf S (nI d') = -5 := by unfold sp_gf; rw [e]; rfl
    rw [e2, e]
    refine xr_bip bi_m5 dX6_gatherFallen_19 ?_
    refine xr_iret dX6_gatherFallen_21 rfl rfl ⟨rfl, hsw, fun q => absurd (by decide) q, cfx.rf⟩
  have hwh : mW S.2.1 = true := by
    cases hq : mW S.2.1 with
    | true => rfl
    | false => rw [hq] at hwh; exact absurd rfl hwh
  have hwhole := mW_iff.mp hwh
  have ef : sp_fall S (nI d') = match fallOf S.2.1 d' with
    | none => -7
    | some F => nI F.length := by
    unfold sp_fall
    rw [if_pos hd, if_neg (by rw [hwh]; decide), ew]
    cases fallOf S.2.1 d' <;> rfl
  have K178 : ∀ I1 J1 (z3 : Option Value), pQ I1 J1 57 → I1 56 8 = nI (200 + d') → cFa I1 J1 S.2.1 d' → cfx [56, 57, 58, 59, 60, 61, 62, 63, 64, 65, 66, 67, 68, 69, 70, 71, 72, 73, 74, 75, 76] I J I1 J1 → xT G M_X6_gatherFallen (xMQ G (xpi fun v I' J' => v = sp_gf S (nI d') ∧ cSw I' J' S.2.1 ∧ (¬ sp_fall S (nI d') < 0 → ∃ F, fallOf S.2.1 (w2n (nI d')) = some F ∧ sp_fall S (nI d') = nI F.length ∧ gfR I' J' S.2.1 F) ∧ cfx [56, 57, 58, 59, 60, 61, 62, 63, 64, 65, 66, 67, 68, 69, 70, 71, 72, 73, 74, 75, 76] I J I' J')) 178 [some (.ref (G.1 56)), some (.ref (G.1 21)), some (.int (nI d')), z3] [] I1 J1 := by
    intro I1 J1 z3 q1 a1 c1 f1
    have hcs : cSw I1 J1 S.2.1 := ⟨q1, Or.inr (Or.inr ⟨d', hd', a1, c1⟩)⟩
    refine xr_aload0 dX6_gatherFallen_178 rfl ?_
    refine xr_getIv dX6_gatherFallen_179 fk_6_48 lay_56 rfl c1.2.1 ?_
    rcases Option.eq_none_or_eq_some (fallOf S.2.1 d') with hF | ⟨F, hF⟩
    · rw [hF] at ef
      have e2 : sp_gf S (nI d') = -7 := by unfold sp_gf; rw [ef]; rfl
      refine xr_if_eq 189 dX6_gatherFallen_182 (by decide) (fun hz => ?_) (fun hz => ?_)
      rotate_left
      · rw [hF] at hz; exact absurd rfl hz
      refine xr_bip bi_m7 dX6_gatherFallen_189 ?_
      refine xr_iret dX6_gatherFallen_191 rfl rfl ⟨e2.symm, hcs, fun q => absurd (by rw [ef]; decide) q, f1⟩
    · rw [hF] at ef
      obtain ⟨r1, r2, r3⟩ := c1.2.2 F hF
      have e2 : sp_gf S (nI d') = 0 := by unfold sp_gf; rw [ef, if_neg (nI_pos (by omega))]
      refine xr_if_eq 189 dX6_gatherFallen_182 (by decide) (fun hz => ?_) (fun hz => ?_)
      · rw [hF] at hz; exact absurd hz (show ¬ (1 : Int32) = 0 by decide)
      refine xr_ic0 dX6_gatherFallen_185 ?_
      refine xr_goto 191 dX6_gatherFallen_186 (by decide) ?_
      refine xr_iret dX6_gatherFallen_191 rfl rfl ⟨e2.symm, hcs, fun _ => ⟨F, by rw [ew]; exact hF, ef, r1, r2, r3⟩, f1⟩
  have k200 : (200 : Int32) = nI 200 := rfl
  refine xr_aload0 dX6_gatherFallen_22 rfl ?_
  refine xr_getI dX6_gatherFallen_23 fk_6_45 lay_56 rfl ?_
  refine xr_sip si_200 dX6_gatherFallen_26 ?_
  refine xr_iload2 dX6_gatherFallen_29 rfl ?_
  refine xr_iadd dX6_gatherFallen_30 ?_
  rw [k200, nI_add]
  refine xr_icmp_eq 178 dX6_gatherFallen_31 (by decide) (fun hask => ?_) (fun hask => ?_)
  · rcases hsw.2 with h | ⟨m2, hm2, h, hc⟩ | ⟨d2, hd2, h, hc⟩
    · rw [h] at hask
      have := (nI_eq (a := 0) (by decide) (by omega)).mp hask
      omega
    · rw [h] at hask
      have := (nI_eq (by omega) (by omega)).mp hask
      omega
    · rw [h] at hask
      have : 200 + d2 = 200 + d' := (nI_eq (by omega) (by omega)).mp hask
      have : d2 = d' := by omega
      subst this
      exact K178 I J _ hsw.1 h hc cfx.rf
  obtain ⟨⟨ks1, hk1⟩, ks2, hk2⟩ := hsw.1
  refine xr_aload0 dX6_gatherFallen_34 rfl ?_
  refine xr_sip si_200 dX6_gatherFallen_35 ?_
  refine xr_iload2 dX6_gatherFallen_38 rfl ?_
  refine xr_iadd dX6_gatherFallen_39 ?_
  rw [k200, nI_add]
  refine xr_putI dX6_gatherFallen_40 fp_6_45 lay_56 rfl ?_
  generalize hI1 : va_up I 56 (upd (I 56) 8 (nI (200 + d'))) = I1
  have eo1 : ∀ a, a ≠ 56 → I1 a = I a := fun a ha => by rw [← hI1, va_up_ne _ _ ha]
  have f01 : cfx [56, 57, 58, 59, 60, 61, 62, 63, 64, 65, 66, 67, 68, 69, 70, 71, 72, 73, 74, 75, 76] I J I1 J := by rw [← hI1]; exact cfx.rf.up _ (by simp)
  have a1 : I1 56 8 = nI (200 + d') := by rw [← hI1, up_same, upd_same]
  refine xr_aload0 dX6_gatherFallen_43 rfl ?_
  refine xr_cVv [] dX6_gatherFallen_44 (xcv_of cf_X6_beginWithEmpty ml_6_68 (by decide)) rfl lay_56 rfl rfl rfl (Nat.le_of_ble_eq_true rfl) (c6_beginWithEmpty (hk1.cg (fun a h1 h2 => ⟨eo1 a (by omega), rfl⟩) : kT I1 J 58 200 512 ks1)) (fun I2 J2 hc => ?_)
  obtain ⟨w2, k9, k10, f2⟩ := hc
  have f02 : cfx [56, 57, 58, 59, 60, 61, 62, 63, 64, 65, 66, 67, 68, 69, 70, 71, 72, 73, 74, 75, 76] I J I2 J2 := f01.tr (f2.mono (by decide))
  have hw1 := wW_1 S.2.1
  have hw1l := wW_1_len hM
  rw [hw1, List.length_append] at hw1l
  refine xr_aload0 dX6_gatherFallen_47 rfl ?_
  refine xr_aload0 dX6_gatherFallen_48 rfl ?_
  refine xr_aload1 dX6_gatherFallen_49 rfl ?_
  refine xr_ic0 dX6_gatherFallen_50 ?_
  have hnx : ∀ x ∈ wx S.2.1 ([[]] : List (List Nat))[0], x ∉ ([[]] : List (List Nat)) := fun x hx q => by
    obtain ⟨t, -, -, rfl⟩ := wx_mem.mp hx
    simp at q
  refine xr_cVi [_, _] dX6_gatherFallen_51 (xcv_of cf_X6_extend ml_6_80 (by decide)) rfl lay_56 rfl rfl rfl (Nat.le_of_ble_eq_true rfl) (c6_extend (i := 0) (f02.mc hm (by decide)) w2 (by decide) wGood.nil (by decide) hnx) (fun v I3 J3 hc => ?_)
  obtain ⟨hv, f3⟩ := hc
  have e0 : ([[]] : List (List Nat))[0] = [] := rfl
  rw [e0] at hv
  rcases hv with ⟨-, rfl, w3⟩ | ⟨hbig, -⟩
  rotate_left
  · omega
  rw [← hw1] at w3
  have f03 : cfx [56, 57, 58, 59, 60, 61, 62, 63, 64, 65, 66, 67, 68, 69, 70, 71, 72, 73, 74, 75, 76] I J I3 J3 := f02.tr (f3.mono (by decide))
  have q3 : kT I3 J3 62 200 512 ks2 := hk2.cg (fun a h1 h2 => ⟨by rw [(f3 a (by simp only [List.mem_cons, List.not_mem_nil, or_false]; omega)).1, (f2 a (by simp only [List.mem_cons, List.not_mem_nil, or_false]; omega)).1, eo1 a (by omega)], by rw [(f3 a (by simp only [List.mem_cons, List.not_mem_nil, or_false]; omega)).2, (f2 a (by simp only [List.mem_cons, List.not_mem_nil, or_false]; omega)).2]⟩)
  refine xr_if_eq 72 dX6_gatherFallen_54 (by decide) (fun hz => ?_) (fun hz => ?_)
  · exact absurd hz (by decide)
  have hgood := wW_good (M := S.2.1) (m := 1) (by omega)
  refine xr_aload0 dX6_gatherFallen_57 rfl ?_
  refine xr_getR dX6_gatherFallen_58 fk_6_12 lay_56 rfl ?_
  refine xr_aload1 dX6_gatherFallen_61 rfl ?_
  refine xr_cVi [_] dX6_gatherFallen_62 (xcv_of cf_X4_followParts ml_6_61 (by decide)) rfl lay_57 rfl rfl rfl (Nat.le_of_ble_eq_true rfl) (c4_followParts (f03.mc hm (by decide)) hwhole isPl_57 (by decide) w3 hgood.2 ⟨by rw [(f3 57 (by decide)).1]; exact k9, Nat.zero_le _, fun k hk hkf => absurd hkf (Nat.not_lt_zero _)⟩) (fun v I4 J4 hc => ?_)
  obtain ⟨hv, f4, o4, k48⟩ := hc
  rcases hv with ⟨rfl, hs4, e4, w4, g4, p4⟩ | ⟨rfl, hs4, u, e4, hu, hl4, w4⟩
  rotate_left
  · exact (wW_200 hM hwhole (by have := w3.len.1; omega) e4 w4.nodup hu hl4).elim
  have hse := wW_ext hM hwhole e4 w4.nodup
  subst hse
  have f04 : cfx [56, 57, 58, 59, 60, 61, 62, 63, 64, 65, 66, 67, 68, 69, 70, 71, 72, 73, 74, 75, 76] I J I4 J4 := f03.tr (f4.mono (by decide))
  have q4 : kT I4 J4 62 200 512 ks2 := q3.cg (fun a h1 h2 => f4 a (by simp only [List.mem_cons, List.not_mem_nil, or_false]; omega))
  have h56 : ∀ j, I4 56 j = I1 56 j := fun j => by rw [(f4 56 (by decide)).1, (f3 56 (by decide)).1, (f2 56 (by decide)).1]
  have hcnt4 := w4.len.2
  have hl17 : (wW S.2.1 1).length ≤ 17 := wW_1_len hM
  refine xr_if_eq 72 dX6_gatherFallen_65 (by decide) (fun hz2 => ?_) (fun hz2 => ?_)
  · exact absurd hz2 (by decide)
  refine xr_ic1 dX6_gatherFallen_68 ?_
  refine xr_goto 73 dX6_gatherFallen_69 (by decide) ?_
  refine xr_putZ dX6_gatherFallen_73 fp_6_48 lay_56 rfl (by simp) ?_
  generalize hI5 : va_up I4 56 (upd (I4 56) 9 1) = I5
  have hc5 : I5 58 3 = nI (wW S.2.1 1).length := by rw [← hI5, va_up_ne _ _ (by decide)]; exact hcnt4
  refine xr_aload0 dX6_gatherFallen_76 rfl ?_
  refine xr_aload0 dX6_gatherFallen_77 rfl ?_
  refine xr_getR dX6_gatherFallen_78 fk_6_12 lay_56 rfl ?_
  refine xr_getR dX6_gatherFallen_81 fk_6_71 lay_57 rfl ?_
  refine xr_getIv dX6_gatherFallen_84 fk_6_75 lay_58 rfl hc5 ?_
  refine xr_bip bi_20 dX6_gatherFallen_87 ?_
  refine xr_min dX6_gatherFallen_89 ml_6_117 (by decide) (Nat.le_of_ble_eq_true rfl) ?_
  have emin : (if (20 : Int32) < nI (wW S.2.1 1).length then (20 : Int32) else nI (wW S.2.1 1).length) = nI (wW S.2.1 1).length := by
    rw [if_neg]
    intro q
    have := nltl (a := 20) q
    omega
  rw [emin]
  refine xr_putI dX6_gatherFallen_92 fp_6_38 lay_56 rfl ?_
  generalize hI6 : va_up I5 56 (upd (I5 56) 6 (nI (wW S.2.1 1).length)) = I6
  have eo6 : ∀ a, a ≠ 56 → I6 a = I4 a := fun a ha => by rw [← hI6, va_up_ne _ _ ha, ← hI5, va_up_ne _ _ ha]
  have s6 : I6 56 6 = nI (wW S.2.1 1).length ∧ I6 56 9 = 1 ∧ I6 56 8 = nI (200 + d') := by
    refine ⟨by rw [← hI6, up_same, upd_same], by rw [← hI6, up_same, upd_ne _ _ (by decide), ← hI5, up_same, upd_same], ?_⟩
    rw [← hI6, up_same, upd_ne _ _ (by decide), ← hI5, up_same, upd_ne _ _ (by decide), h56]; exact a1
  have f06 : cfx [56, 57, 58, 59, 60, 61, 62, 63, 64, 65, 66, 67, 68, 69, 70, 71, 72, 73, 74, 75, 76] I J I6 J4 := by rw [← hI6, ← hI5]; exact (f04.up _ (by simp)).up _ (by simp)
  -- spent
  have Kno : ∀ I1 J1 (i : Nat), fallOf S.2.1 d' = none → pQ I1 J1 57 → I1 56 8 = nI (200 + d') → I1 56 9 = 0 → cfx [56, 57, 58, 59, 60, 61, 62, 63, 64, 65, 66, 67, 68, 69, 70, 71, 72, 73, 74, 75, 76] I J I1 J1 → xT G M_X6_gatherFallen (xMQ G (xpi fun v I' J' => v = sp_gf S (nI d') ∧ cSw I' J' S.2.1 ∧ (¬ sp_fall S (nI d') < 0 → ∃ F, fallOf S.2.1 (w2n (nI d')) = some F ∧ sp_fall S (nI d') = nI F.length ∧ gfR I' J' S.2.1 F) ∧ cfx [56, 57, 58, 59, 60, 61, 62, 63, 64, 65, 66, 67, 68, 69, 70, 71, 72, 73, 74, 75, 76] I J I' J')) 120 [some (.ref (G.1 56)), some (.ref (G.1 21)), some (.int (nI d')), some (.int (nI i))] [] I1 J1 := by
    intro I1 J1 i hno q1 a1 z1 f1
    have hfa : cFa I1 J1 S.2.1 d' := ⟨hwhole, by rw [hno, z1]; rfl, fun F hF => by rw [hno] at hF; cases hF⟩
    refine xr_iload3 dX6_gatherFallen_120 rfl ?_
    refine xr_aload0 dX6_gatherFallen_121 rfl ?_
    refine xr_getI dX6_gatherFallen_122 fk_6_38 lay_56 rfl ?_
    refine xr_icmp_ge 178 dX6_gatherFallen_125 (by decide) (fun hb1 => ?_) (fun hb1 => ?_)
    · exact K178 I1 J1 _ q1 a1 hfa f1
    refine xr_iload3 dX6_gatherFallen_128 rfl ?_
    refine xr_bip bi_20 dX6_gatherFallen_129 ?_
    refine xr_icmp_ge 178 dX6_gatherFallen_131 (by decide) (fun hb2 => ?_) (fun hb2 => ?_)
    · exact K178 I1 J1 _ q1 a1 hfa f1
    refine xr_aload0 dX6_gatherFallen_134 rfl ?_
    refine xr_getIv dX6_gatherFallen_135 fk_6_48 lay_56 rfl z1 ?_
    refine xr_if_eq 178 dX6_gatherFallen_138 (by decide) (fun hb3 => ?_) (fun hb3 => ?_)
    · exact K178 I1 J1 _ q1 a1 hfa f1
    · exact absurd rfl hb3
  have L : ∀ f i, i + f = 21 → ∀ I1 J1 (F hs Sn : List (List Nat)) (cd : Nat), i ≤ F.length → cFw I1 F hs → pWd I1 J1 57 hs → hs ≠ [] → (∀ a ∈ hs, wGood S.2.1 a) → pFo I1 S.2.1 57 hs hs.length → I1 57 8 = nI (mK S.2.1) → (∃ ks, kT I1 J1 62 200 512 ks) → I1 57 10 = nI cd → cd ≤ hs.length → (cd = hs.length → pKd I1 S.2.1 57 hs) → isHp S.2.1 Sn hs → fallGo S.2.1 d' f i F Sn = fallOf S.2.1 d' → I1 56 8 = nI (200 + d') → I1 56 9 = 1 → cfx [56, 57, 58, 59, 60, 61, 62, 63, 64, 65, 66, 67, 68, 69, 70, 71, 72, 73, 74, 75, 76] I J I1 J1 → xT G M_X6_gatherFallen (xMQ G (xpi fun v I' J' => v = sp_gf S (nI d') ∧ cSw I' J' S.2.1 ∧ (¬ sp_fall S (nI d') < 0 → ∃ F, fallOf S.2.1 (w2n (nI d')) = some F ∧ sp_fall S (nI d') = nI F.length ∧ gfR I' J' S.2.1 F) ∧ cfx [56, 57, 58, 59, 60, 61, 62, 63, 64, 65, 66, 67, 68, 69, 70, 71, 72, 73, 74, 75, 76] I J I' J')) 120 [some (.ref (G.1 56)), some (.ref (G.1 21)), some (.int (nI d')), some (.int (nI i))] [] I1 J1 := by
    intro f
    induction f with
    | zero =>
      intro i hi I1 J1 F hs Sn cd hiF hFw
      have := hFw.2.1
      omega
    | succ f IH =>
      intro i hi I1 J1 F hs Sn cd hiF hFw w1 hne g1 p1 k8 sg1 k10 hcd hpk hHp hgo a1 z1 f1
      have hF20 := hFw.2.1
      have hl1 := w1.len.1
      refine xr_iload3 dX6_gatherFallen_120 rfl ?_
      refine xr_aload0 dX6_gatherFallen_121 rfl ?_
      refine xr_getIv dX6_gatherFallen_122 fk_6_38 lay_56 rfl hFw.1 ?_
      refine xr_icmp_ge 178 dX6_gatherFallen_125 (by decide) (fun hge => ?_) (fun hge => ?_)
      · have hge := nle hge
        have hFo : fallOf S.2.1 d' = some F := by rw [← hgo]; exact fallGo_end hge
        exact K178 I1 J1 _ ⟨⟨_, w1.1⟩, sg1⟩ a1 ⟨hwhole, by rw [hFo, z1]; rfl, fun F' hF' => by rw [hFo] at hF'; cases hF'; exact ⟨hF20, hFw.1, hs, w1, g1, hFw.2.2⟩⟩ f1
      have hil := nlt hge
      refine xr_iload3 dX6_gatherFallen_128 rfl ?_
      refine xr_bip bi_20 dX6_gatherFallen_129 ?_
      refine xr_icmp_ge 178 dX6_gatherFallen_131 (by decide) (fun hge2 => ?_) (fun hge2 => ?_)
      · have := nle (b := 20) hge2; omega
      refine xr_aload0 dX6_gatherFallen_134 rfl ?_
      refine xr_getIv dX6_gatherFallen_135 fk_6_48 lay_56 rfl z1 ?_
      refine xr_if_eq 178 dX6_gatherFallen_138 (by decide) (fun hz => ?_) (fun hz => ?_)
      · exact absurd hz (by decide)
      obtain ⟨j, hj1, hj2⟩ := hFw.2.2 i hil
      have hFi : F[i]? = some F[i] := List.getElem?_eq_getElem hil
      have m1 := f1.mc hm (by decide)
      refine xr_aload0 dX6_gatherFallen_141 rfl ?_
      refine xr_aload0 dX6_gatherFallen_142 rfl ?_
      refine xr_aload1 dX6_gatherFallen_143 rfl ?_
      refine xr_aload0 dX6_gatherFallen_144 rfl ?_
      refine xr_getR dX6_gatherFallen_145 fk_6_28 lay_56 rfl ?_
      refine xr_iload3 dX6_gatherFallen_148 rfl ?_
      refine xr_ialdv i dX6_gatherFallen_149 lay_74 rfl (by omega) (by decide) hj1 ?_
      refine xr_iload2 dX6_gatherFallen_150 rfl ?_
      refine xr_cVi [_, _, _] dX6_gatherFallen_151 (xcv_of cf_X6_lookAtParts ml_6_123 (by decide)) rfl lay_56 rfl rfl rfl (Nat.le_of_ble_eq_true rfl) (c6_lookAtParts m1 hwhole hd' w1 g1 p1 hHp hj2 k8) (fun v I2 J2 hc2 => ?_)
      obtain ⟨hv, f2, o2⟩ := hc2
      have f02 : cfx [56, 57, 58, 59, 60, 61, 62, 63, 64, 65, 66, 67, 68, 69, 70, 71, 72, 73, 74, 75, 76] I J I2 J2 := f1.tr (f2.mono (by decide))
      have sg2 : ∃ ks, kT I2 J2 62 200 512 ks := by
        obtain ⟨ks, hks⟩ := sg1
        exact ⟨ks, hks.cg (fun a h1 h2 => f2 a (by simp only [List.mem_cons, List.not_mem_nil, or_false]; omega))⟩
      have a2 : I2 56 8 = nI (200 + d') := by rw [o2 8 (by decide)]; exact a1
      have Kfail : ∀ I3 J3, fallOf S.2.1 d' = none → pQ I3 J3 57 → I3 56 8 = nI (200 + d') → cfx [56, 57, 58, 59, 60, 61, 62, 63, 64, 65, 66, 67, 68, 69, 70, 71, 72, 73, 74, 75, 76] I J I3 J3 → xT G M_X6_gatherFallen (xMQ G (xpi fun v I' J' => v = sp_gf S (nI d') ∧ cSw I' J' S.2.1 ∧ (¬ sp_fall S (nI d') < 0 → ∃ F, fallOf S.2.1 (w2n (nI d')) = some F ∧ sp_fall S (nI d') = nI F.length ∧ gfR I' J' S.2.1 F) ∧ cfx [56, 57, 58, 59, 60, 61, 62, 63, 64, 65, 66, 67, 68, 69, 70, 71, 72, 73, 74, 75, 76] I J I' J')) 168 [some (.ref (G.1 56)), some (.ref (G.1 21)), some (.int (nI d')), some (.int (nI i))] [.ref (G.1 56)] I3 J3 := by
        intro I3 J3 hno q3 a3 f3
        refine xr_ic0 dX6_gatherFallen_168 ?_
        refine xr_putZ dX6_gatherFallen_169 fp_6_48 lay_56 rfl (by simp) ?_
        generalize hI4 : va_up I3 56 (upd (I3 56) 9 0) = I4
        refine xr_iinc dX6_gatherFallen_172 rfl ii_1 (Nat.le_of_ble_eq_true rfl) ?_
        show xT _ _ _ 175 [_, _, _, _] _ _ _
        refine xr_goto 120 dX6_gatherFallen_175 (by decide) ?_
        rw [k_1, nI_add]
        exact Kno I4 J3 (i + 1) hno (q3.cg (fun a h1 h2 => ⟨by rw [← hI4, va_up_ne _ _ (by omega)], rfl⟩)) (by rw [← hI4, up_same, upd_ne _ _ (by decide)]; exact a3) (by rw [← hI4, up_same, upd_same]) (by rw [← hI4]; exact f3.up _ (by simp))
      rcases hv with ⟨rfl, hlen16, hs2, e2, st2⟩ | ⟨rfl, hwhy, hs2, w2⟩
      rotate_left
      · skip
        refine xr_if_eq 168 dX6_gatherFallen_154 (by decide) (fun hz3 => ?_) (fun hz3 => ?_)
        rotate_left
        · exact absurd rfl hz3
        refine Kfail I2 J2 ?_ ⟨⟨_, w2.1⟩, sg2⟩ a2 f02
        rw [← hgo]
        refine fallGo_none hFi ?_
        rcases hwhy with h | ⟨t, p, h1, h2, h3⟩
        · exact Or.inl h
        · exact Or.inr ⟨t, p, h1, h2, Or.inl h3⟩
      unfold lkS at st2
      rw [candP_all] at st2
      obtain ⟨s1, s2, s3, s4, s5, s6', s7, s8, s9, s10⟩ := st2
      refine xr_if_eq 168 dX6_gatherFallen_154 (by decide) (fun hz3 => ?_) (fun hz3 => ?_)
      · exact absurd hz3 (by decide)
      have hne2 : hs2 ≠ [] := fun q => hne (by rw [q] at s1; exact (List.append_eq_nil_iff.mp s1.symm).1)
      have hls2 : hs.length ≤ hs2.length := by rw [s1, List.length_append]; omega
      have hl2 := s3.len.1
      have k102 : I2 57 10 = nI cd := by rw [s10 10 (by decide) (by decide)]; exact k10
      have hpk2 : cd = hs2.length → pKd I2 S.2.1 57 hs2 := fun q => by
        have he : e2 = [] := by
          rw [s1, List.length_append] at q
          exact List.length_eq_zero_iff.mp (by omega)
        rw [he, List.append_nil] at s1
        rw [s1] at q ⊢
        exact (hpk q).cg (f2 (57 + 11) (by decide)).1 (f2 (57 + 13) (by decide)).1 (s10 11 (by decide) (by decide)) (s10 12 (by decide) (by decide))
      have hFw2 : cFw I2 F hs2 := ⟨by rw [o2 6 (by decide)]; exact hFw.1, hF20, fun k hk => by
        obtain ⟨j, h1, h2⟩ := hFw.2.2 k hk
        exact ⟨j, by rw [(f2 74 (by decide)).1]; exact h1, by rw [s1, List.getElem?_append_left (List.getElem?_eq_some_iff.mp h2).1]; exact h2⟩⟩
      have hcsl : (cands S.2.1 d' F[i]).length ≤ 256 := by
        have hml := mMarks_len S.2.1
        have hN8 := hM.2.2.1
        have hKd : mK S.2.1 ^ d' ≤ 16 := by
          rcases hd' with rfl | rfl
          · rw [Nat.pow_one]; have := hM.2.1; omega
          · calc mK S.2.1 ^ 2 ≤ 4 ^ 2 := Nat.pow_le_pow_left hM.2.1 2
              _ = 16 := by decide
        have key : ∀ l : List Nat, (l.flatMap (cand1 S.2.1 d' F[i])).length = l.length * mK S.2.1 ^ d' := by
          intro l
          induction l with
          | nil => simp
          | cons a l IHl =>
            rw [List.flatMap_cons, List.length_append, IHl, List.length_cons, Nat.add_mul, Nat.one_mul]
            simp [cand1, Nat.add_comm]
        unfold cands
        rw [key]
        exact Nat.mul_le_mul (show (mMarks S.2.1).length ≤ 16 by omega) hKd
      refine xr_aload0 dX6_gatherFallen_157 rfl ?_
      refine xr_cVi [] dX6_gatherFallen_158 (xcv_of cf_X6_addUnlike ml_6_127 (by decide)) rfl lay_56 rfl rfl rfl (Nat.le_of_ble_eq_true rfl) (c6_addUnlike hM hwhole s3 s4 hne2 s6' s5 sg2 k102 (by omega) hpk2 hFw2 s7 hcsl) (fun v I3 J3 hc3 => ?_)
      obtain ⟨hv, kd3, k103, sg3, f3, o3, p3⟩ := hc3
      have w3 : pWd I3 J3 57 hs2 := s3.cg (fun a h1 h2 => f3 a (by simp only [List.mem_cons, List.not_mem_nil, or_false]; omega))
      have f03 : cfx [56, 57, 58, 59, 60, 61, 62, 63, 64, 65, 66, 67, 68, 69, 70, 71, 72, 73, 74, 75, 76] I J I3 J3 := f02.tr (f3.mono (by decide))
      have a3 : I3 56 8 = nI (200 + d') := by rw [o3 8 (by decide)]; exact a2
      rcases hv with ⟨rfl, hFw3⟩ | ⟨rfl, hbig⟩
      rotate_left
      · skip
        refine xr_if_eq 168 dX6_gatherFallen_161 (by decide) (fun hz4 => ?_) (fun hz4 => ?_)
        rotate_left
        · exact absurd rfl hz4
        refine Kfail I3 J3 ?_ ⟨⟨_, w3.1⟩, sg3⟩ a3 f03
        rw [← hgo]
        exact fallGo_big hFi hbig
      refine xr_if_eq 168 dX6_gatherFallen_161 (by decide) (fun hz4 => ?_) (fun hz4 => ?_)
      · exact absurd hz4 (by decide)
      have hgo2 := fallGo_go (f := f) hFi hlen16 ⟨hs2, s2, hl2⟩ hFw3.2.1
      rw [hgo] at hgo2
      have hFl : F.length ≤ ((cands S.2.1 d' F[i]).foldl (addU S.2.1) F).length := by
        obtain ⟨e, he⟩ := addU_fold S.2.1 (cands S.2.1 d' F[i]) F
        rw [he, List.length_append]; omega
      refine xr_ic1 dX6_gatherFallen_164 ?_
      refine xr_goto 169 dX6_gatherFallen_165 (by decide) ?_
      refine xr_putZ dX6_gatherFallen_169 fp_6_48 lay_56 rfl (by simp) ?_
      generalize hI4 : va_up I3 56 (upd (I3 56) 9 1) = I4
      refine xr_iinc dX6_gatherFallen_172 rfl ii_1 (Nat.le_of_ble_eq_true rfl) ?_
      show xT _ _ _ 175 [_, _, _, _] _ _ _
      refine xr_goto 120 dX6_gatherFallen_175 (by decide) ?_
      rw [k_1, nI_add]
      have eo4 : ∀ a, a ≠ 56 → I4 a = I3 a := fun a ha => by rw [← hI4, va_up_ne _ _ ha]
      have p4 : ∀ j, j ≠ 9 → I4 56 j = I3 56 j := fun j hj => by rw [← hI4, up_same, upd_ne _ _ hj]
      refine IH (i + 1) (by omega) I4 J3 _ hs2 _ hs2.length (by omega) ⟨by rw [p4 6 (by decide)]; exact hFw3.1, hFw3.2.1, by rw [eo4 74 (by decide)]; exact hFw3.2.2⟩ (w3.cg (fun a h1 h2 => ⟨eo4 a (by omega), rfl⟩)) hne2 s4 ⟨?_, s5.2.1, fun k hk hkf => ?_⟩ ?_ ?_ ?_ (Nat.le_refl _) (fun _ => kd3.cg (eo4 (57 + 11) (by decide)) (eo4 (57 + 13) (by decide)) (by rw [eo4 57 (by decide)]) (by rw [eo4 57 (by decide)])) s2 hgo2.symm (by rw [p4 8 (by decide)]; exact a3) (by rw [← hI4, up_same, upd_same]) (by rw [← hI4]; exact f03.up _ (by simp))
      · rw [eo4 57 (by decide), p3 9 (by decide) (by decide) (by decide)]; exact s5.1
      · rw [eo4 (57 + 10) (by decide), eo4 (57 + 9) (by decide), (f3 (57 + 10) (by decide)).1, (f3 (57 + 9) (by decide)).1]; exact s5.2.2 k hk hkf
      · rw [eo4 57 (by decide), p3 8 (by decide) (by decide) (by decide)]; exact s6'
      · obtain ⟨ks, hks⟩ := sg3
        exact ⟨ks, hks.cg (fun a h1 h2 => ⟨eo4 a (by omega), rfl⟩)⟩
      · rw [eo4 57 (by decide)]; exact k103
  have hne1 : wW S.2.1 1 ≠ [] := fun q => by have := wW_at0 S.2.1 1; rw [q] at this; cases this
  have hpos : 0 < (wW S.2.1 1).length := List.length_pos_iff.mpr hne1
  have L0 : ∀ i, i ≤ (wW S.2.1 1).length → ∀ I1, (∀ a, a ≠ 74 → I1 a = I6 a) → (∀ k, k < i → I1 74 k = nI k) → xT G M_X6_gatherFallen (xMQ G (xpi fun v I' J' => v = sp_gf S (nI d') ∧ cSw I' J' S.2.1 ∧ (¬ sp_fall S (nI d') < 0 → ∃ F, fallOf S.2.1 (w2n (nI d')) = some F ∧ sp_fall S (nI d') = nI F.length ∧ gfR I' J' S.2.1 F) ∧ cfx [56, 57, 58, 59, 60, 61, 62, 63, 64, 65, 66, 67, 68, 69, 70, 71, 72, 73, 74, 75, 76] I J I' J')) 97 [some (.ref (G.1 56)), some (.ref (G.1 21)), some (.int (nI d')), some (.int (nI i))] [] I1 J4 := by
    refine x_for (fun i hi IH I1 e1 d1 => ?_)
    have v6 : I1 56 6 = nI (wW S.2.1 1).length := by rw [e1 56 (by decide)]; exact s6.1
    refine xr_iload3 dX6_gatherFallen_97 rfl ?_
    refine xr_aload0 dX6_gatherFallen_98 rfl ?_
    refine xr_getIv dX6_gatherFallen_99 fk_6_38 lay_56 rfl v6 ?_
    refine xr_icmp_ge 118 dX6_gatherFallen_102 (by decide) (fun hge => ?_) (fun hge => ?_)
    · have : i = (wW S.2.1 1).length := by have := nle hge; omega
      have eb : ∀ a, a ≠ 74 → a ≠ 56 → I1 a = I4 a := fun a h1 h2 => by rw [e1 a h1, eo6 a h2]
      refine xr_ic0 dX6_gatherFallen_118 ?_
      refine xr_istore3 dX6_gatherFallen_119 (Nat.le_of_ble_eq_true rfl) ?_
      show xT _ _ _ 120 [_, _, _, _] _ _ _
      refine L 21 0 rfl I1 J4 (fallF0 S.2.1) (wW S.2.1 1) (fallF0 S.2.1) 0 (Nat.zero_le _) ⟨by rw [fallF0_eq]; exact v6, by rw [fallF0_eq]; omega, fun k hk => ?_⟩ (w4.cg (fun a h1 h2 => ⟨eb a (by omega) (by omega), rfl⟩)) hne1 g4 ⟨by rw [eb 57 (by decide) (by decide)]; exact p4.1, p4.2.1, fun k hk hkf => by rw [eb (57 + 10) (by decide) (by decide), eb (57 + 9) (by decide) (by decide)]; exact p4.2.2 k hk hkf⟩ (by rw [eb 57 (by decide) (by decide)]; exact k48) ⟨ks2, q4.cg (fun a h1 h2 => ⟨eb a (by omega) (by omega), rfl⟩)⟩ ?_ (Nat.zero_le _) (fun q => by omega) ?_ rfl (by rw [e1 56 (by decide)]; exact s6.2.2) (by rw [e1 56 (by decide)]; exact s6.2.1) (f06.tr (fun a ha => ⟨e1 a (fun q => ha (by rw [q]; simp)), rfl⟩))
      · have hk' : k < (wW S.2.1 1).length := by rw [fallF0_eq] at hk; exact hk
        refine ⟨k, d1 k (by omega), ?_⟩
        have : (fallF0 S.2.1)[k]? = (wW S.2.1 1)[k]? := by rw [fallF0_eq]
        rw [List.getElem?_eq_getElem hk] at this
        exact this.symm
      · rw [eb 57 (by decide) (by decide), o4 10 (by decide) (by decide), (f3 57 (by decide)).1]; exact k10
      · have := fallF0_hp hM hwhole
        rw [fallF0_eq] at this ⊢
        exact this
    have hil := nlt hge
    refine xr_aload0 dX6_gatherFallen_105 rfl ?_
    refine xr_getR dX6_gatherFallen_106 fk_6_28 lay_56 rfl ?_
    refine xr_iload3 dX6_gatherFallen_109 rfl ?_
    refine xr_iload3 dX6_gatherFallen_110 rfl ?_
    refine xr_iast i dX6_gatherFallen_111 lay_74 rfl (by omega) (by decide) ?_
    refine xr_iinc dX6_gatherFallen_112 rfl ii_1 (Nat.le_of_ble_eq_true rfl) ?_
    show xT _ _ _ 115 [_, _, _, _] _ _ _
    refine xr_goto 97 dX6_gatherFallen_115 (by decide) ?_
    rw [k_1, nI_add]
    refine IH hil _ (fun a ha => by rw [va_up_ne _ _ ha]; exact e1 a ha) (fun k hk => ?_)
    rw [up_same]
    by_cases e : k = i
    · rw [e, upd_same]
    · rw [upd_ne _ _ e]; exact d1 k (by omega)
  refine xr_ic0 dX6_gatherFallen_95 ?_
  refine xr_istore3 dX6_gatherFallen_96 (Nat.le_of_ble_eq_true rfl) ?_
  show xT _ _ _ 97 [_, _, _, _] _ _ _
  exact L0 0 (Nat.zero_le _) I6 (fun _ _ => rfl) (fun k hk => absurd hk (Nat.not_lt_zero _))
end C40
