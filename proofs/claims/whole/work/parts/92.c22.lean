section C22
variable {G : xG} {I : xI} {J : xJ}
def pQ (I : xI) (J : xJ) (p : Nat) : Prop := (∃ ks, kT I J (p + 1) 200 512 ks) ∧ ∃ ks, kT I J (p + 5) 200 512 ks
theorem pQ.cg {I I' : xI} {J J' : xJ} {p : Nat} (h : pQ I J p) (e : ∀ a, p + 1 ≤ a → a ≤ p + 8 → I' a = I a ∧ J' a = J a) : pQ I' J' p := by
  obtain ⟨⟨k1, h1⟩, k2, h2⟩ := h
  exact ⟨⟨k1, h1.cg (fun a h3 h4 => e a h3 (by omega))⟩, k2, h2.cg (fun a h3 h4 => e a (by omega) h4)⟩
def pPl (p : Nat) : List Nat := [p, p + 1, p + 2, p + 3, p + 4, p + 5, p + 6, p + 7, p + 8, p + 9, p + 10, p + 11, p + 12, p + 13, p + 14]
/-- what a word leads to from a heap -/
def tkP (M : xMac) (hs : List (List Nat)) (ws : List Nat) (hs' : List (List Nat)) : Prop := ∀ P : List Nat → Prop, (∀ a ∈ hs, P a) → P ws → (∀ a x, P a → x < mK M → P (wpart M a x)) → ∀ a ∈ hs', P a
theorem c4_take {M : xMac} (hm : cMc I M) (hwh : mWhole M) {p : Nat} (hp : isPl p) (h27 : 27 ≤ p) {hs : List (List Nat)} (h : pWd I J p hs) (hg : ∀ a ∈ hs, wGood M a) (hf : pFo I M p hs hs.length) {w : Nat} (hw : isW w) {ws : List Nat} (hs' : cWd I J w ws) (hws : wGood M ws) : xCon G M_X4_take [.ref (G.1 p), .ref (G.1 21), .ref (G.1 w)] I J (xpi fun v I' J' => ((∃ i hs', v = nI i ∧ hs'[i]? = some ws ∧ (∃ e, hs' = hs ++ e) ∧ tkP M hs ws hs' ∧ pWd I' J' p hs' ∧ (∀ a ∈ hs', wGood M a) ∧ pFo I' M p hs' hs'.length ∧ I' p 8 = nI (mK M)) ∨ (v = -1 ∧ (∃ hs' : List (List Nat), hs'.Nodup ∧ 200 < hs'.length ∧ tkP M hs ws hs') ∧ ∃ hs2, pWd I' J' p hs2)) ∧ cfx [p, p + 1, p + 1 + 1, p + 1 + 2, p + 1 + 3, p + 9, p + 10, p + 14] I J I' J' ∧ (∀ j, j ≠ 8 → j ≠ 9 → I' p j = I p j)) := by
  have hM := hm.1.1
  have K15 : ∀ I1 J1 (hs1 : List (List Nat)) (i : Nat), cfx [p + 1, p + 1 + 1, p + 1 + 2, p + 1 + 3] I J I1 J1 → pWd I1 J1 p hs1 → (∀ a ∈ hs1, wGood M a) → pFo I1 M p hs1 hs.length → hs1[i]? = some ws → (∃ e, hs1 = hs ++ e) → tkP M hs ws hs1 → xT G M_X4_take (xMQ G (xpi fun v I' J' => ((∃ i hs', v = nI i ∧ hs'[i]? = some ws ∧ (∃ e, hs' = hs ++ e) ∧ tkP M hs ws hs' ∧ pWd I' J' p hs' ∧ (∀ a ∈ hs', wGood M a) ∧ pFo I' M p hs' hs'.length ∧ I' p 8 = nI (mK M)) ∨ (v = -1 ∧ (∃ hs' : List (List Nat), hs'.Nodup ∧ 200 < hs'.length ∧ tkP M hs ws hs') ∧ ∃ hs2, pWd I' J' p hs2)) ∧ cfx [p, p + 1, p + 1 + 1, p + 1 + 2, p + 1 + 3, p + 9, p + 10, p + 14] I J I' J' ∧ (∀ j, j ≠ 8 → j ≠ 9 → I' p j = I p j))) 15 [some (.ref (G.1 p)), some (.ref (G.1 21)), some (.ref (G.1 w)), none] [.int (nI i)] I1 J1 := by
    intro I1 J1 hs1 i f1 w1 g1 p1 hi he ht
    have hil := (List.getElem?_eq_some_iff.mp hi).1
    have hl1 := w1.len.1
    refine xr_istore3 dX4_take_15 (Nat.le_of_ble_eq_true rfl) ?_
    show xT _ _ _ 16 [_, _, _, _] _ _ _
    refine xr_iload3 dX4_take_16 rfl ?_
    refine xr_if_lt 32 dX4_take_17 (by decide) (fun hz => ?_) (fun hz => ?_)
    · exact absurd hz (nI_pos (by omega))
    refine xr_aload0 dX4_take_20 rfl ?_
    refine xr_aload1 dX4_take_21 rfl ?_
    refine xr_cVi [_] dX4_take_22 (xcv_of cf_X4_followParts ml_4_86 (by decide)) rfl hp.1 rfl rfl rfl (Nat.le_of_ble_eq_true rfl) (c4_followParts (f1.mc hm (fun a ha => by simp at ha; omega)) hwh hp h27 w1 g1 p1) (fun v I2 J2 hc2 => ?_)
    obtain ⟨hv, f2, o2, k2⟩ := hc2
    have f02 : cfx [p, p + 1, p + 1 + 1, p + 1 + 2, p + 1 + 3, p + 9, p + 10, p + 14] I J I2 J2 := (f1.mono (by simp)).tr f2
    have o02 : ∀ j, j ≠ 8 → j ≠ 9 → I2 p j = I p j := fun j h8 h9 => by rw [o2 j h8 h9, (f1 p (by simp only [List.mem_cons, List.not_mem_nil, or_false]; omega)).1]
    rcases hv with ⟨rfl, hs2, e2, w2, g2, p2⟩ | ⟨rfl, hs2, u, e2, hu, hl2, w2⟩
    · skip
      refine xr_if_eq 32 dX4_take_25 (by decide) (fun hz2 => ?_) (fun hz2 => ?_)
      · exact absurd hz2 (by decide)
      refine xr_iload3 dX4_take_28 rfl ?_
      refine xr_goto 33 dX4_take_29 (by decide) ?_
      refine xr_iret dX4_take_33 rfl rfl ⟨Or.inl ⟨i, hs2, rfl, e2.at hi, ?_, fun P h1 h2 h3 => e2.2 P (ht P h1 h2 h3) h3, w2, g2, p2, k2⟩, f02, o02⟩
      obtain ⟨e, rfl⟩ := he
      obtain ⟨⟨e', rfl⟩, -⟩ := e2
      exact ⟨e ++ e', by simp⟩
    · skip
      refine xr_if_eq 32 dX4_take_25 (by decide) (fun hz2 => ?_) (fun hz2 => ?_)
      rotate_left
      · exact absurd rfl hz2
      refine xr_icm1 dX4_take_32 ?_
      refine xr_iret dX4_take_33 rfl rfl ⟨Or.inr ⟨rfl, ⟨hs2 ++ [u], ?_, by simp; omega, fun P h1 h2 h3 => e2.2 P (ht P h1 h2 h3) h3⟩, hs2, w2⟩, f02, o02⟩
      rw [List.nodup_append]
      refine ⟨w2.nodup, by simp, fun a ha b hb e => hu ?_⟩
      rw [← List.mem_singleton.mp hb, ← e]; exact ha
  refine x_ent (by decide) (Nat.le_of_ble_eq_true rfl) rfl ?_
  show xT _ _ _ 0 [_, _, _, _] _ _ _
  refine xr_aload0 dX4_take_0 rfl ?_
  refine xr_getR dX4_take_1 fk_4_14 hp.1 rfl ?_
  refine xr_aload2 dX4_take_4 rfl ?_
  refine xr_getJv dX4_take_5 fk_4_65 hw rfl hs'.1 ?_
  refine xr_aload2 dX4_take_8 rfl ?_
  refine xr_getIv dX4_take_9 fk_4_69 hw rfl hs'.2 ?_
  refine xr_cVi [_, _] dX4_take_12 (xcv_of cf_X0_add ml_4_83 (by decide)) rfl hp.2.1.1 rfl rfl rfl (Nat.le_of_ble_eq_true rfl) (pl_add hp h (hws.w16 hM)) (fun v I1 J1 hc => ?_)
  rcases hc with ⟨i, hi, rfl, rfl, rfl⟩ | ⟨hn, hl, rfl, rfl, rfl⟩ | ⟨hn, hl, rfl, w1, f1⟩
  · exact K15 I J hs i cfx.rf h hg hf hi ⟨[], by simp⟩ (fun P h1 _ _ => h1)
  · skip
    refine xr_istore3 dX4_take_15 (Nat.le_of_ble_eq_true rfl) ?_
    show xT _ _ _ 16 [_, _, _, _] _ _ _
    refine xr_iload3 dX4_take_16 rfl ?_
    refine xr_if_lt 32 dX4_take_17 (by decide) (fun hz => ?_) (fun hz => ?_)
    rotate_left
    · exact absurd (by decide) hz
    refine xr_icm1 dX4_take_32 ?_
    refine xr_iret dX4_take_33 rfl rfl ⟨Or.inr ⟨rfl, ⟨hs ++ [ws], ?_, by simp; omega, fun P h1 h2 _ a ha => ?_⟩, hs, h⟩, cfx.rf, fun j _ _ => rfl⟩
    · rw [List.nodup_append]
      refine ⟨h.nodup, by simp, fun a ha b hb e => hn ?_⟩
      rw [← List.mem_singleton.mp hb, ← e]; exact ha
    · rcases List.mem_append.mp ha with q | q
      · exact h1 a q
      · rw [List.mem_singleton.mp q]; exact h2
  · refine K15 I1 J1 _ hs.length f1 w1 (fun a ha => ?_) ⟨?_, by simp, fun k hk hkf => ?_⟩ (by simp) ⟨[ws], rfl⟩ (fun P h1 h2 _ a ha => ?_)
    · rcases List.mem_append.mp ha with q | q
      · exact hg a q
      · rw [List.mem_singleton.mp q]; exact hws
    · rw [(f1 p (by simp only [List.mem_cons, List.not_mem_nil, or_false]; omega)).1]; exact hf.1
    · rw [(f1 (p + 10) (by simp only [List.mem_cons, List.not_mem_nil, or_false]; omega)).1, (f1 (p + 9) (by simp only [List.mem_cons, List.not_mem_nil, or_false]; omega)).1, List.getElem_append_left hkf]
      obtain ⟨u1, u2⟩ := hf.2.2 k hkf hkf
      refine ⟨u1, fun x hx => ?_⟩
      obtain ⟨j, h1, h2⟩ := u2 x hx
      exact ⟨j, h1, by rw [List.getElem?_append_left (List.getElem?_eq_some_iff.mp h2).1]; exact h2⟩
    · rcases List.mem_append.mp ha with q | q
      · exact h1 a q
      · rw [List.mem_singleton.mp q]; exact h2
theorem c8_gather {S : xSt} (a b : Int32) (hm : cMc I S.2.1) (hp : cSp I J S.2.1 S.2.2) (hq : pQ I J 41) : xCon G M_X8_gather [.ref (G.1 0), .int a, .int b] I J (xpi fun v I' J' => v = sp_two S a b ∧ (sp_two S a b = 0 → mWhole S.2.1 ∧ ∃ a' b' hs, a' < 8 ∧ b' < 8 ∧ a = nI a' ∧ b = nI b' ∧ xsp S a = S.2.2 a' ∧ xsp S b = S.2.2 b' ∧ isHp S.2.1 [S.2.2 a', S.2.2 b'] hs ∧ pWd I' J' 41 hs ∧ (∀ a ∈ hs, wGood S.2.1 a) ∧ pFl I' S.2.1 41 hs ∧ I' 41 8 = nI (mK S.2.1) ∧ I' 41 10 = nI 0) ∧ pQ I' J' 41 ∧ cfx (pPl 41) I J I' J') := by
  have hM := hm.1.1
  have K14 : sp_two S a b = -1 → xT G M_X8_gather (xMQ G (xpi fun v I' J' => v = sp_two S a b ∧ (sp_two S a b = 0 → mWhole S.2.1 ∧ ∃ a' b' hs, a' < 8 ∧ b' < 8 ∧ a = nI a' ∧ b = nI b' ∧ xsp S a = S.2.2 a' ∧ xsp S b = S.2.2 b' ∧ isHp S.2.1 [S.2.2 a', S.2.2 b'] hs ∧ pWd I' J' 41 hs ∧ (∀ a ∈ hs, wGood S.2.1 a) ∧ pFl I' S.2.1 41 hs ∧ I' 41 8 = nI (mK S.2.1) ∧ I' 41 10 = nI 0) ∧ pQ I' J' 41 ∧ cfx (pPl 41) I J I' J')) 14 [some (.ref (G.1 0)), some (.int a), some (.int b)] [] I J := by
    intro e
    rw [e]
    refine xr_icm1 dX8_gather_14 ?_
    refine xr_iret dX8_gather_15 rfl rfl ⟨rfl, fun q => absurd q (by decide), hq, cfx.rf⟩
  refine x_ent (by decide) (Nat.le_of_ble_eq_true rfl) rfl ?_
  show xT _ _ _ 0 [_, _, _] _ _ _
  refine xr_iload1 dX8_gather_0 rfl ?_
  refine xr_cSi [_] dX8_gather_1 (xcs_of cf_X8_isSpot ml_8_145 (by decide)) rfl rfl (Nat.le_of_ble_eq_true rfl) (c8_isSpot a) (fun v I1 J1 hc => ?_)
  obtain ⟨rfl, rfl, rfl⟩ := hc
  refine xr_if_eq 14 dX8_gather_4 (by decide) (fun ha => ?_) (fun ha => ?_)
  · have ha := is_n ha
    exact K14 (by simp [sp_two, ha])
  obtain ⟨a', ha⟩ := is_s ha
  obtain ⟨ha8, rfl⟩ := ix_some ha
  refine xr_iload2 dX8_gather_7 rfl ?_
  refine xr_cSi [_] dX8_gather_8 (xcs_of cf_X8_isSpot ml_8_145 (by decide)) rfl rfl (Nat.le_of_ble_eq_true rfl) (c8_isSpot b) (fun v I1 J1 hc => ?_)
  obtain ⟨rfl, rfl, rfl⟩ := hc
  refine xr_if_ne 16 dX8_gather_11 (by decide) (fun hb => ?_) (fun hb => ?_)
  rotate_left
  · have hb := is_n hb
    exact K14 (by simp [sp_two, ha, hb])
  obtain ⟨b', hb⟩ := is_s hb
  obtain ⟨hb8, rfl⟩ := ix_some hb
  have hWa := isW_s a' ha8
  have hWb := isW_s b' hb8
  refine xr_aload0 dX8_gather_16 rfl ?_
  refine xr_getR dX8_gather_17 fk_8_33 lay_0 rfl ?_
  refine xr_getIv dX8_gather_20 fk_8_139 lay_21 rfl hm.2.2.1 ?_
  refine xr_if_ne 29 dX8_gather_23 (by decide) (fun hwh => ?_) (fun hwh => ?_)
  rotate_left
  · have hwh := b2_0.mp hwh
    have e : sp_two S (nI a') (nI b') = -5 := by simp [sp_two, ha, hb, hwh]
    rw [e]
    refine xr_bip bi_m5 dX8_gather_26 ?_
    refine xr_iret dX8_gather_28 rfl rfl ⟨rfl, fun q => absurd q (by decide), hq, cfx.rf⟩
  have hwh : mW S.2.1 = true := by
    cases hqq : mW S.2.1 with
    | true => rfl
    | false => rw [hqq] at hwh; exact absurd rfl hwh
  have hwhole := mW_iff.mp hwh
  have e : sp_two S (nI a') (nI b') = if hF S.2.1 [S.2.2 a', S.2.2 b'] = false then -7 else 0 := by simp only [sp_two, ha, hb]; rw [if_neg (by rw [hwh]; decide)]
  obtain ⟨⟨ks, hks⟩, ks2, hks2⟩ := hq
  refine xr_aload0 dX8_gather_29 rfl ?_
  refine xr_getR dX8_gather_30 fk_8_54 lay_0 rfl ?_
  refine xr_cVv [] dX8_gather_33 (xcv_of cf_X4_reset ml_8_304 (by decide)) rfl lay_41 rfl rfl rfl (Nat.le_of_ble_eq_true rfl) (c4_reset isPl_41 hks) (fun I1 J1 hc => ?_)
  obtain ⟨w1, k9, k10, f1, o1⟩ := hc
  have m1 := f1.mc hm (by decide)
  have s1 := f1.sp hp (by decide)
  have q1 : kT I1 J1 (41 + 5) 200 512 ks2 := hks2.cg (fun a h1 h2 => f1 a (by simp only [List.mem_cons, List.not_mem_nil, or_false]; omega))
  obtain ⟨awd, a16, ar, ao⟩ := sp_w s1 hM ha8
  obtain ⟨bwd, b16, br, bo⟩ := sp_w s1 hM hb8
  have K76 : ∀ I2 J2, hF S.2.1 [S.2.2 a', S.2.2 b'] = false → (∃ hs2, pWd I2 J2 41 hs2) → kT I2 J2 (41 + 5) 200 512 ks2 → cfx (pPl 41) I J I2 J2 → xT G M_X8_gather (xMQ G (xpi fun v I' J' => v = sp_two S (nI a') (nI b') ∧ (sp_two S (nI a') (nI b') = 0 → mWhole S.2.1 ∧ ∃ a'' b'' hs, a'' < 8 ∧ b'' < 8 ∧ nI a' = nI a'' ∧ nI b' = nI b'' ∧ xsp S (nI a') = S.2.2 a'' ∧ xsp S (nI b') = S.2.2 b'' ∧ isHp S.2.1 [S.2.2 a'', S.2.2 b''] hs ∧ pWd I' J' 41 hs ∧ (∀ a ∈ hs, wGood S.2.1 a) ∧ pFl I' S.2.1 41 hs ∧ I' 41 8 = nI (mK S.2.1) ∧ I' 41 10 = nI 0) ∧ pQ I' J' 41 ∧ cfx (pPl 41) I J I' J')) 76 [some (.ref (G.1 0)), some (.int (nI a')), some (.int (nI b'))] [] I2 J2 := by
    intro I2 J2 hF2 hw2 hk2 f2
    rw [if_pos hF2] at e
    rw [e]
    refine xr_bip bi_m7 dX8_gather_76 ?_
    obtain ⟨hs2, hw2⟩ := hw2
    refine xr_iret dX8_gather_78 rfl rfl ⟨rfl, fun q => absurd q (by decide), ⟨⟨_, hw2.1⟩, ks2, hk2⟩, f2⟩
  have mono1 : ∀ {I J I' J'}, cfx [41, 41 + 1, 41 + 1 + 1, 41 + 1 + 2, 41 + 1 + 3, 41 + 9, 41 + 10, 41 + 14] I J I' J' → cfx (pPl 41) I J I' J' := fun f => f.mono (by decide)
  refine xr_aload0 dX8_gather_36 rfl ?_
  refine xr_getR dX8_gather_37 fk_8_54 lay_0 rfl ?_
  refine xr_aload0 dX8_gather_40 rfl ?_
  refine xr_getR dX8_gather_41 fk_8_33 lay_0 rfl ?_
  refine xr_aload0 dX8_gather_44 rfl ?_
  refine xr_getR dX8_gather_45 fk_8_17 lay_0 rfl ?_
  refine xr_iload1 dX8_gather_48 rfl ?_
  refine xr_aald4 a' dX8_gather_49 lay_2 rfl ha8 (by decide) ?_
  show xT _ _ _ 50 _ _ _ _
  refine xr_cVi [_, _] dX8_gather_50 (xcv_of cf_X4_take ml_8_307 (by decide)) rfl lay_41 rfl rfl rfl (Nat.le_of_ble_eq_true rfl) (c4_take m1 hwhole isPl_41 (by decide) w1 (fun a ha => by cases ha) ⟨k9, Nat.le_refl _, (fun k hk => absurd hk (Nat.not_lt_zero _))⟩ hWa awd ⟨a16.1, ar, ao⟩) (fun v I2 J2 hc => ?_)
  obtain ⟨hv, f2, o2⟩ := hc
  have f02 : cfx (pPl 41) I J I2 J2 := (f1.mono (by decide)).tr (mono1 f2)
  have q2 : kT I2 J2 (41 + 5) 200 512 ks2 := q1.cg (fun a h1 h2 => f2 a (by simp only [List.mem_cons, List.not_mem_nil, or_false]; omega))
  rcases hv with ⟨i, hs2, rfl, hi2, -, t2, w2, g2, p2, k82⟩ | ⟨rfl, ⟨hs2, hn2, hl2, t2⟩, hw2⟩
  rotate_left
  · skip
    refine xr_if_lt 76 dX8_gather_53 (by decide) (fun hz => ?_) (fun hz => ?_)
    rotate_left
    · exact absurd (by decide) hz
    refine K76 I2 J2 (hF_f.mpr (hFits.no hn2 (fun u hu => ?_) hl2)) hw2 q2 f02
    exact t2 (wReach S.2.1 [S.2.2 a', S.2.2 b']) (fun a ha => by cases ha) (wReach.self (by simp)) (fun a x ha hx => ha.part hx) u hu
  have hil := (List.getElem?_eq_some_iff.mp hi2).1
  have hl2 := w2.len.1
  refine xr_if_lt 76 dX8_gather_53 (by decide) (fun hz => ?_) (fun hz => ?_)
  · exact absurd hz (nI_pos (by omega))
  have m2 := f2.mc m1 (by decide)
  refine xr_aload0 dX8_gather_56 rfl ?_
  refine xr_getR dX8_gather_57 fk_8_54 lay_0 rfl ?_
  refine xr_aload0 dX8_gather_60 rfl ?_
  refine xr_getR dX8_gather_61 fk_8_33 lay_0 rfl ?_
  refine xr_aload0 dX8_gather_64 rfl ?_
  refine xr_getR dX8_gather_65 fk_8_17 lay_0 rfl ?_
  refine xr_iload2 dX8_gather_68 rfl ?_
  refine xr_aald4 b' dX8_gather_69 lay_2 rfl hb8 (by decide) ?_
  show xT _ _ _ 70 _ _ _ _
  refine xr_cVi [_, _] dX8_gather_70 (xcv_of cf_X4_take ml_8_307 (by decide)) rfl lay_41 rfl rfl rfl (Nat.le_of_ble_eq_true rfl) (c4_take m2 hwhole isPl_41 (by decide) w2 g2 p2 hWb (f2.wd bwd (by simp only [List.mem_cons, List.not_mem_nil, or_false]; omega)) ⟨b16.1, br, bo⟩) (fun v I3 J3 hc => ?_)
  obtain ⟨hv, f3, o3⟩ := hc
  have f03 : cfx (pPl 41) I J I3 J3 := f02.tr (mono1 f3)
  have q3 : kT I3 J3 (41 + 5) 200 512 ks2 := q2.cg (fun a h1 h2 => f3 a (by simp only [List.mem_cons, List.not_mem_nil, or_false]; omega))
  rcases hv with ⟨i3, hs3, rfl, hi3, ⟨e3, he3⟩, t3, w3, g3, p3, k83⟩ | ⟨rfl, ⟨hs3, hn3, hl3, t3⟩, hw3⟩
  rotate_left
  · skip
    refine xr_if_ge 79 dX8_gather_73 (by decide) (fun hz => ?_) (fun hz => ?_)
    · exact absurd hz (by decide)
    refine K76 I3 J3 (hF_f.mpr (hFits.no hn3 (fun u hu => ?_) hl3)) hw3 q3 f03
    refine t3 (wReach S.2.1 [S.2.2 a', S.2.2 b']) (fun a ha => ?_) (wReach.self (by simp)) (fun a x ha hx => ha.part hx) u hu
    exact t2 (wReach S.2.1 [S.2.2 a', S.2.2 b']) (fun a ha => by cases ha) (wReach.self (by simp)) (fun a x ha hx => ha.part hx) a ha
  have hil3 := (List.getElem?_eq_some_iff.mp hi3).1
  have hl3 := w3.len.1
  have hHp : isHp S.2.1 [S.2.2 a', S.2.2 b'] hs3 := by
    refine ⟨w3.nodup, fun u => ⟨fun hu => ?_, fun hu => ?_⟩⟩
    · refine t3 (wReach S.2.1 [S.2.2 a', S.2.2 b']) (fun a ha => ?_) (wReach.self (by simp)) (fun a x ha hx => ha.part hx) u hu
      exact t2 (wReach S.2.1 [S.2.2 a', S.2.2 b']) (fun a ha => by cases ha) (wReach.self (by simp)) (fun a x ha hx => ha.part hx) a ha
    · refine (pFo.fl p3).clo.reach (fun a ha => ?_) hu
      rcases List.mem_cons.mp ha with q | q
      · rw [q, he3]
        exact List.mem_append_left _ (List.mem_of_getElem? hi2)
      · rw [List.mem_singleton.mp q]
        exact List.mem_of_getElem? hi3
  have hFt : hF S.2.1 [S.2.2 a', S.2.2 b'] = true := hF_iff.mpr ⟨hs3, hHp, hl3⟩
  rw [if_neg (by rw [hFt]; decide)] at e
  refine xr_if_ge 79 dX8_gather_73 (by decide) (fun hz => ?_) (fun hz => ?_)
  rotate_left
  · exact absurd (nI_pos' (by omega)) hz
  refine xr_ic0 dX8_gather_79 ?_
  rw [e]
  refine xr_iret dX8_gather_80 rfl rfl ⟨rfl, fun _ => ⟨hwhole, a', b', hs3, ha8, hb8, rfl, rfl, by simp [xsp, ha], by simp [xsp, hb], hHp, w3, g3, pFo.fl p3, k83, ?_⟩, ⟨⟨_, w3.1⟩, ks2, q3⟩, f03⟩
  rw [o3 10 (by decide) (by decide), o2 10 (by decide) (by decide)]; exact k10
end C22
