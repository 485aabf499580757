section M18
variable {G : xG} {I : xI} {J : xJ}
theorem wout_lt {M : xMac} (hM : mOk M) (hwh : mWhole M) {ws : List Nat} {x : Nat} (hw : wOk M ws) (hx : x < mK M) : wout M ws x < mK M := (wpart_inv hM hwh (fun h1 h2 => mw_lt hM h1 h2) (fun h1 h2 h3 => mg_ok hM hwh h1 h2 h3) ws x [] hw hx (fun m hm => by cases hm) wRed.nil).1
theorem hd_clo {I : xI} {M : xMac} {hs : List (List Nat)} (h : mHd I M hs hs.length) : hClo M hs := by
  intro a ha x hx
  obtain ⟨i, hi, rfl⟩ := List.getElem_of_mem ha
  obtain ⟨-, j, -, hj⟩ := h i hi hi x hx
  exact List.mem_of_getElem? hj
def m2 (I : xI) (M : xMac) (wa wb : List Nat) : Prop := ∃ hs i j, mHp I hs ∧ hGood M hs ∧ hs.length ≤ 200 ∧ mHd I M hs hs.length ∧ I 77 26 = nI i ∧ hs[i]? = some wa ∧ I 77 27 = nI j ∧ hs[j]? = some wb ∧ isHp M [wa, wb] hs ∧ (∃ l, 14 ≤ l ∧ ncl M hs (l + 1) ≤ ncl M hs l ∧ mCl I M hs (l + 1)) ∧ ∀ n, n ≤ 14 → mCa I M hs n
theorem c9_takeTwo {S : xSt} (a b : Int32) (h : mIv I S) : xCon G M_X9_takeTwo [.ref (G.1 77), .int a, .int b] I J (xpi fun v I' J' => v = sp_two S a b ∧ (sp_two S a b = 0 → mWhole S.2.1 ∧ m2 I' S.2.1 (xsp S a) (xsp S b)) ∧ mIv I' S ∧ mfr I J I' J') := by
  refine x_ent (by decide) (Nat.le_of_ble_eq_true rfl) rfl ?_
  show xT _ _ _ 0 [_, _, _, _] _ _ _
  refine xr_iload1 dX9_takeTwo_0 rfl ?_
  refine xr_cSi [_] dX9_takeTwo_1 (xcs_of cf_X9_isSpot ml_9_137 (by decide)) rfl rfl (Nat.le_of_ble_eq_true rfl) (c9_isSpot _) (fun v I1 J1 hc => ?_)
  obtain ⟨rfl, rfl, rfl⟩ := hc
  refine xr_if_eq 14 dX9_takeTwo_4 (by decide) (fun ha => ?_) (fun ha => ?_)
  · have ha := is_n ha
    have e : sp_two S a b = -1 := by simp [sp_two, ha]
    refine xr_icm1 dX9_takeTwo_14 ?_
    refine xr_iret dX9_takeTwo_15 rfl rfl ⟨by rw [e], fun q => by rw [e] at q; exact absurd q (by decide), h, mfr.rf⟩
  obtain ⟨a', ha⟩ := is_s ha
  obtain ⟨ha8, rfl⟩ := ix_some ha
  refine xr_iload2 dX9_takeTwo_7 rfl ?_
  refine xr_cSi [_] dX9_takeTwo_8 (xcs_of cf_X9_isSpot ml_9_137 (by decide)) rfl rfl (Nat.le_of_ble_eq_true rfl) (c9_isSpot _) (fun v I1 J1 hc => ?_)
  obtain ⟨rfl, rfl, rfl⟩ := hc
  refine xr_if_ne 16 dX9_takeTwo_11 (by decide) (fun hb => ?_) (fun hb => ?_)
  rotate_left
  · have hb := is_n hb
    have e : sp_two S (nI a') b = -1 := by simp [sp_two, ha, hb]
    refine xr_icm1 dX9_takeTwo_14 ?_
    refine xr_iret dX9_takeTwo_15 rfl rfl ⟨by rw [e], fun q => by rw [e] at q; exact absurd q (by decide), h, mfr.rf⟩
  obtain ⟨b', hb⟩ := is_s hb
  obtain ⟨hb8, rfl⟩ := ix_some hb
  have exa : xsp S (nI a') = S.2.2 a' := by simp [xsp, ha]
  have exb : xsp S (nI b') = S.2.2 b' := by simp [xsp, hb]
  refine xr_aload0 dX9_takeTwo_16 rfl ?_
  refine xr_cVi [] dX9_takeTwo_17 (xcv_of cf_X9_isWhole ml_9_133 (by decide)) rfl lay_77 rfl rfl rfl (Nat.le_of_ble_eq_true rfl) (c9_isWhole h.2.1) (fun v I1 J1 hc => ?_)
  obtain ⟨rfl, rfl, rfl⟩ := hc
  refine xr_if_ne 26 dX9_takeTwo_20 (by decide) (fun hwh => ?_) (fun hwh => ?_)
  rotate_left
  · have hwh := b2_0.mp hwh
    have e : sp_two S (nI a') (nI b') = -5 := by simp [sp_two, ha, hb, hwh]
    refine xr_bip bi_m5 dX9_takeTwo_23 ?_
    refine xr_iret dX9_takeTwo_25 rfl rfl ⟨by rw [e], fun q => by rw [e] at q; exact absurd q (by decide), h, mfr.rf⟩
  have hwh : mW S.2.1 = true := by
    cases hq : mW S.2.1 with
    | true => rfl
    | false => rw [hq] at hwh; exact absurd rfl hwh
  have hwhole := mW_iff.mp hwh
  have hN8 := h.2.1.1.2.2.1
  have hK4 := h.2.1.1.2.1
  obtain ⟨wa, ga⟩ := h.2.2 a' ha8
  obtain ⟨wb, gb⟩ := h.2.2 b' hb8
  refine xr_aload0 dX9_takeTwo_26 rfl ?_
  refine xr_cVv [] dX9_takeTwo_27 (xcv_of cf_X9_beginHeap ml_9_200 (by decide)) rfl lay_77 rfl rfl rfl (Nat.le_of_ble_eq_true rfl) (c9_beginHeap) (fun I1 J1 hc => ?_)
  obtain ⟨H1, z22, f1, rfl⟩ := hc
  have wa1 : mWd I1 a' (S.2.2 a') := ⟨by rw [f1.1 84 (by decide) (by decide)]; exact wa.1, by rw [f1.1 83 (by decide) (by decide)]; exact wa.2⟩
  refine xr_aload0 dX9_takeTwo_30 rfl ?_
  refine xr_aload0 dX9_takeTwo_31 rfl ?_
  refine xr_iload1 dX9_takeTwo_32 rfl ?_
  refine xr_cVi [_] dX9_takeTwo_33 (xcv_of cf_X9_toHeap ml_9_191 (by decide)) rfl lay_77 rfl rfl rfl (Nat.le_of_ble_eq_true rfl) (c9_toHeap H1 (fun a h => by cases h) (by omega) wa1 ga.1 (fun m hm => ga.2.2.lt hN8 hm)) (fun v I2 J2 hc => ?_)
  obtain ⟨⟨o1, hs1, rfl, to1, H2⟩, f2, rfl⟩ := hc
  have hs1e : hs1 = [S.2.2 a'] ∧ o1 = some 0 := by
    rcases to1 with ⟨j, -, ⟨h1, -⟩, -⟩ | ⟨-, -, h1, h2⟩ | ⟨-, h1, -, -⟩
    · simp at h1
    · exact ⟨h2, h1⟩
    · simp at h1
  obtain ⟨rfl, rfl⟩ := hs1e
  refine xr_putI dX9_takeTwo_36 fp_9_203 lay_77 rfl ?_
  generalize hI3 : va_up I2 77 (upd (I2 77) 26 (oI (some 0))) = I3
  have f3 : mfx [83, 84, 89, 90, 91, 92, 93, 94, 95] [13, 14, 21, 22, 26, 27] I I3 := by rw [← hI3]; exact ((f1.mono (by simp) (by simp)).tr (f2.mono (by simp) (by simp))).up7 _ (by decide)
  have H3 : mHp I3 [S.2.2 a'] := by rw [← hI3]; exact H2.cg (by rw [up_same, upd_ne _ _ (by decide)]) (by rw [va_up_ne _ _ (by decide)]) (by rw [va_up_ne _ _ (by decide)])
  have g3 : hGood S.2.1 [S.2.2 a'] := ⟨by simp, fun a h => by rw [List.mem_singleton.mp h]; exact ga⟩
  have w3 : I3 83 = I 83 ∧ I3 84 = I 84 := by
    rw [← hI3, va_up_ne _ _ (by decide), va_up_ne _ _ (by decide), f2.1 83 (by decide) (by decide), f2.1 84 (by decide) (by decide)]
    exact ⟨f1.1 83 (by decide) (by decide), f1.1 84 (by decide) (by decide)⟩
  have z3 : I3 77 22 = 0 ∧ I3 77 26 = nI 0 := by
    rw [← hI3, up_same, upd_ne _ _ (by decide), upd_same, f2.2 22 (by decide)]
    exact ⟨z22, rfl⟩
  have wb3 : mWd I3 b' (S.2.2 b') := ⟨by rw [w3.2]; exact wb.1, by rw [w3.1]; exact wb.2⟩
  refine xr_aload0 dX9_takeTwo_39 rfl ?_
  refine xr_aload0 dX9_takeTwo_40 rfl ?_
  refine xr_iload2 dX9_takeTwo_41 rfl ?_
  refine xr_cVi [_] dX9_takeTwo_42 (xcv_of cf_X9_toHeap ml_9_191 (by decide)) rfl lay_77 rfl rfl rfl (Nat.le_of_ble_eq_true rfl) (c9_toHeap H3 (g3.lt hN8) (by omega) wb3 gb.1 (fun m hm => gb.2.2.lt hN8 hm)) (fun v I4 J4 hc => ?_)
  obtain ⟨⟨o2, hs2, rfl, to2, H4⟩, f4, rfl⟩ := hc
  have hl2 : hs2.length ≤ 2 := by
    rcases to2 with ⟨j, -, -, rfl⟩ | ⟨-, -, -, rfl⟩ | ⟨-, -, -, rfl⟩ <;> simp
  obtain ⟨j2, rfl, hj2⟩ := to2.at (by omega)
  have hi2 : hs2[0]? = some (S.2.2 a') := by
    rcases to2 with ⟨j, -, -, rfl⟩ | ⟨-, -, -, rfl⟩ | ⟨-, -, -, rfl⟩ <;> simp
  have g4 : hGood S.2.1 hs2 := to2.good g3 gb
  have hmem2 : ∀ a ∈ hs2, a = S.2.2 a' ∨ a = S.2.2 b' := by
    intro a ha
    rcases to2 with ⟨j, -, -, rfl⟩ | ⟨-, -, -, rfl⟩ | ⟨-, -, -, rfl⟩
    · exact Or.inl (List.mem_singleton.mp ha)
    · simp at ha; exact ha
    · exact Or.inl (List.mem_singleton.mp ha)
  refine xr_putI dX9_takeTwo_45 fp_9_206 lay_77 rfl ?_
  generalize hI5 : va_up I4 77 (upd (I4 77) 27 (oI (some j2))) = I5
  have f5 : mfx [83, 84, 89, 90, 91, 92, 93, 94, 95] [13, 14, 21, 22, 26, 27] I I5 := by rw [← hI5]; exact (f3.tr (f4.mono (by simp) (by simp))).up7 _ (by decide)
  have H5 : mHp I5 hs2 := by rw [← hI5]; exact H4.cg (by rw [up_same, upd_ne _ _ (by decide)]) (by rw [va_up_ne _ _ (by decide)]) (by rw [va_up_ne _ _ (by decide)])
  have z5 : I5 77 22 = nI 0 ∧ I5 77 26 = nI 0 ∧ I5 77 27 = nI j2 := by
    rw [← hI5, up_same, upd_ne _ _ (by decide), upd_ne _ _ (by decide), upd_same, f4.2 22 (by decide), f4.2 26 (by decide)]
    exact ⟨z3.1, z3.2, rfl⟩
  have x5 : mwx [9, 10] I I5 := by
    rw [← hI5]
    exact mwx.of (by rw [va_up_ne _ _ (by decide), f4.1 83 (by decide) (by decide)]; exact w3.1) (by rw [va_up_ne _ _ (by decide), f4.1 84 (by decide) (by decide)]; exact w3.2)
  refine xr_aload0 dX9_takeTwo_48 rfl ?_
  refine xr_cVi [] dX9_takeTwo_49 (xcv_of cf_X9_grow ml_9_209 (by decide)) rfl lay_77 rfl rfl rfl (Nat.le_of_ble_eq_true rfl) (c9_grow (f5.mach h.2.1 (by decide) (by decide)) hwhole H5 g4 (Nat.zero_le _) z5.1 (fun k hk q => by omega)) (fun v I6 J6 hc => ?_)
  obtain ⟨⟨hs6, rfl, H6, g6, e6, c6⟩, x6, f6, rfl⟩ := hc
  have f56 : mfx [83, 84, 89, 90, 91, 92, 93, 94, 95] [13, 14, 21, 22, 26, 27] I I6 := f5.tr (f6.mono (by simp) (by simp))
  have hI6 : mIv I6 S := ⟨f56.sh h.1 (by decide), f56.mach h.2.1 (by decide) (by decide), h.2.2.keep (x5.tr x6) (by decide)⟩
  have hreach : ∀ w ∈ hs6, wReach S.2.1 [S.2.2 a', S.2.2 b'] w := e6.2 _ (fun a ha => by
    rcases hmem2 a ha with rfl | rfl
    · exact wReach.self (by simp)
    · exact wReach.self (by simp)) (fun a x ha hx => ha.part hx)
  refine xr_if_ne 58 dX9_takeTwo_52 (by decide) (fun hsp => ?_) (fun hsp => ?_)
  rotate_left
  · have hsp := b2d hsp
    have hF0 : hF S.2.1 [S.2.2 a', S.2.2 b'] = false := hF_f.mpr (hFits.no g6.1 hreach (by omega))
    have e : sp_two S (nI a') (nI b') = -7 := by simp [sp_two, ha, hb, hwh, hF0]
    refine xr_bip bi_m7 dX9_takeTwo_55 ?_
    refine xr_iret dX9_takeTwo_57 rfl rfl ⟨by rw [e], fun q => by rw [e] at q; exact absurd q (by decide), hI6, f56.fr (by decide) rfl⟩
  have hsp := b2d' hsp
  obtain ⟨md6, z6⟩ := c6 hsp
  have hclo := hd_clo md6
  have hhp : isHp S.2.1 [S.2.2 a', S.2.2 b'] hs6 := ⟨g6.1, fun w => ⟨hreach w, fun hw => hclo.reach (fun a ha => by
    simp at ha
    rcases ha with rfl | rfl
    · exact List.mem_of_getElem? (e6.at hi2)
    · exact List.mem_of_getElem? (e6.at hj2)) hw⟩⟩
  have hF1 : hF S.2.1 [S.2.2 a', S.2.2 b'] = true := hF_iff.mpr ⟨hs6, hhp, hsp⟩
  have e : sp_two S (nI a') (nI b') = 0 := by simp [sp_two, ha, hb, hwh, hF1]
  refine xr_aload0 dX9_takeTwo_58 rfl ?_
  refine xr_cVi [] dX9_takeTwo_59 (xcv_of cf_X9_partAll ml_9_212 (by decide)) rfl lay_77 rfl rfl rfl (Nat.le_of_ble_eq_true rfl) (c9_partAll hI6.2.1 H6.1 hsp md6 (fun a ha x hx => by have := wout_lt h.2.1.1 hwhole (g6.2 a ha).2.2 hx; omega)) (fun v I7 J7 hc => ?_)
  obtain ⟨⟨l, hl14, rfl, hst, cl7⟩, ca7, f7, rfl⟩ := hc
  have f67 : mfx [83, 84, 89, 90, 91, 92, 93, 94, 95] [13, 14, 21, 22, 26, 27] I I7 := f56.tr (f7.mono (by simp) (by simp))
  have hI7 : mIv I7 S := f7.iv hI6 (by decide) (by decide)
  refine xr_istore3 dX9_takeTwo_62 (Nat.le_of_ble_eq_true rfl) ?_
  show xT _ _ _ 63 [_, _, _, _] _ _ _
  refine xr_ic0 dX9_takeTwo_63 ?_
  refine xr_iret dX9_takeTwo_64 rfl rfl ⟨by rw [e], fun _ => ⟨hwhole, ?_⟩, hI7, f67.fr (by decide) rfl⟩
  rw [exa, exb]
  refine ⟨hs6, 0, j2, f7.hp H6 (by decide) (by decide), g6, hsp, fun k hk hk2 y hy => ?_, ?_, e6.at hi2, ?_, e6.at hj2, hhp, ⟨l, hl14, hst, cl7⟩, ca7⟩
  · rw [f7.1 91 (by decide) (by decide), f7.1 92 (by decide) (by decide)]; exact md6 k hk hk2 y hy
  · rw [f7.2 26 (by decide), f6.2 26 (by decide)]; exact z5.2.1
  · rw [f7.2 27 (by decide), f6.2 27 (by decide)]; exact z5.2.2
theorem c9_same {S : xSt} (a b : Int32) (h : mIv I S) : xCon G M_X9_same [.ref (G.1 77), .int a, .int b] I J (xpi fun v I' J' => v = sp_same S a b ∧ mIv I' S ∧ mfr I J I' J') := by
  refine x_ent (by decide) (Nat.le_of_ble_eq_true rfl) rfl ?_
  show xT _ _ _ 0 [_, _, _, _] _ _ _
  refine xr_aload0 dX9_same_0 rfl ?_
  refine xr_iload1 dX9_same_1 rfl ?_
  refine xr_iload2 dX9_same_2 rfl ?_
  refine xr_cVi [_, _] dX9_same_3 (xcv_of cf_X9_takeTwo ml_9_215 (by decide)) rfl lay_77 rfl rfl rfl (Nat.le_of_ble_eq_true rfl) (c9_takeTwo a b h) (fun v I1 J1 hc => ?_)
  obtain ⟨rfl, h2, hI1, hf1⟩ := hc
  refine xr_istore3 dX9_same_6 (Nat.le_of_ble_eq_true rfl) ?_
  show xT _ _ _ 7 [_, _, _, _] _ _ _
  refine xr_iload3 dX9_same_7 rfl ?_
  refine xr_if_eq 15 dX9_same_8 (by decide) (fun hz => ?_) (fun hz => ?_)
  rotate_left
  · skip
    refine xr_iload3 dX9_same_11 rfl ?_
    refine xr_goto 41 dX9_same_12 (by decide) ?_
    refine xr_iret dX9_same_41 rfl rfl ⟨by rw [sp_same, if_neg hz], hI1, hf1⟩
  obtain ⟨hwh, hs, i, j, H1, g1, hl, md, z26, ai, z27, aj, hp, ⟨l, hl14, hst, ⟨c, c1, c2⟩⟩, ca⟩ := h2 hz
  have hi := (List.getElem?_eq_some_iff.mp ai).1
  have hj := (List.getElem?_eq_some_iff.mp aj).1
  have hcl := cnt_le (wFst S.2.1 hs (l + 1)) hs.length
  have q1 := c1 i hi
  have q2 := c1 j hj
  have hiff : c i = c j ↔ wAl S.2.1 (xsp S a) (xsp S b) := by
    have := c2 i j hi hj
    rw [getD_at ai, getD_at aj] at this
    exact this.trans (stb_al (hd_clo md) hst (List.mem_of_getElem? ai) (List.mem_of_getElem? aj))
  refine xr_aload0 dX9_same_15 rfl ?_
  refine xr_getR dX9_same_16 fk_9_60 lay_77 rfl ?_
  refine xr_aload0 dX9_same_19 rfl ?_
  refine xr_getIv dX9_same_20 fk_9_203 lay_77 rfl z26 ?_
  refine xr_ialdv _ dX9_same_23 lay_93 rfl (by omega) (by decide) q1.1 ?_
  refine xr_aload0 dX9_same_24 rfl ?_
  refine xr_getR dX9_same_25 fk_9_60 lay_77 rfl ?_
  refine xr_aload0 dX9_same_28 rfl ?_
  show xT _ _ _ 29 _ _ _ _
  refine xr_getIv dX9_same_29 fk_9_206 lay_77 rfl z27 ?_
  refine xr_ialdv _ dX9_same_32 lay_93 rfl (by omega) (by decide) q2.1 ?_
  refine xr_icmp_ne 40 dX9_same_33 (by decide) (fun hne => ?_) (fun hne => ?_)
  · skip
    refine xr_ic0 dX9_same_40 ?_
    refine xr_iret dX9_same_41 rfl rfl ⟨?_, hI1, hf1⟩
    rw [sp_same, if_pos hz]
    have : wA S.2.1 (xsp S a) (xsp S b) = false := by
      cases hq : wA S.2.1 (xsp S a) (xsp S b) with
      | false => rfl
      | true => exact absurd (by rw [hiff.mpr (wA_iff.mp hq)]) hne
    rw [this]; rfl
  · have heq : c i = c j := (nI_eq (by omega) (by omega)).mp hne
    refine xr_ic1 dX9_same_36 ?_
    refine xr_goto 41 dX9_same_37 (by decide) ?_
    refine xr_iret dX9_same_41 rfl rfl ⟨?_, hI1, hf1⟩
    rw [sp_same, if_pos hz, wA_iff.mpr (hiff.mp heq)]; rfl
theorem c9_heap {S : xSt} (a : Int32) (h : mIv I S) : xCon G M_X9_heap [.ref (G.1 77), .int a] I J (xpi fun v I' J' => v = sp_heap S a ∧ mIv I' S ∧ mfr I J I' J') := by
  refine x_ent (by decide) (Nat.le_of_ble_eq_true rfl) rfl ?_
  show xT _ _ _ 0 [_, _, _] _ _ _
  refine xr_aload0 dX9_heap_0 rfl ?_
  refine xr_iload1 dX9_heap_1 rfl ?_
  refine xr_iload1 dX9_heap_2 rfl ?_
  refine xr_cVi [_, _] dX9_heap_3 (xcv_of cf_X9_takeTwo ml_9_215 (by decide)) rfl lay_77 rfl rfl rfl (Nat.le_of_ble_eq_true rfl) (c9_takeTwo a a h) (fun v I1 J1 hc => ?_)
  obtain ⟨rfl, h2, hI1, hf1⟩ := hc
  refine xr_istore2 dX9_heap_6 (Nat.le_of_ble_eq_true rfl) ?_
  show xT _ _ _ 7 [_, _, _] _ _ _
  refine xr_iload2 dX9_heap_7 rfl ?_
  refine xr_if_eq 15 dX9_heap_8 (by decide) (fun hz => ?_) (fun hz => ?_)
  rotate_left
  · skip
    refine xr_iload2 dX9_heap_11 rfl ?_
    refine xr_goto 19 dX9_heap_12 (by decide) ?_
    refine xr_iret dX9_heap_19 rfl rfl ⟨by rw [sp_heap, if_neg hz], hI1, hf1⟩
  obtain ⟨hwh, hs, i, j, H1, g1, hl, md, z26, ai, z27, aj, hp, -, ca⟩ := h2 hz
  refine xr_aload0 dX9_heap_15 rfl ?_
  refine xr_getIv dX9_heap_16 fk_9_178 lay_77 rfl H1.1 ?_
  refine xr_iret dX9_heap_19 rfl rfl ⟨?_, hI1, hf1⟩
  rw [sp_heap, if_pos hz, (hpOf_is ⟨hs, hp, hl⟩).len hp]
theorem c9_least {S : xSt} (a : Int32) (h : mIv I S) : xCon G M_X9_least [.ref (G.1 77), .int a] I J (xpi fun v I' J' => v = sp_least S a ∧ mIv I' S ∧ mfr I J I' J') := by
  refine x_ent (by decide) (Nat.le_of_ble_eq_true rfl) rfl ?_
  show xT _ _ _ 0 [_, _, _] _ _ _
  refine xr_aload0 dX9_least_0 rfl ?_
  refine xr_iload1 dX9_least_1 rfl ?_
  refine xr_iload1 dX9_least_2 rfl ?_
  refine xr_cVi [_, _] dX9_least_3 (xcv_of cf_X9_takeTwo ml_9_215 (by decide)) rfl lay_77 rfl rfl rfl (Nat.le_of_ble_eq_true rfl) (c9_takeTwo a a h) (fun v I1 J1 hc => ?_)
  obtain ⟨rfl, h2, hI1, hf1⟩ := hc
  refine xr_istore2 dX9_least_6 (Nat.le_of_ble_eq_true rfl) ?_
  show xT _ _ _ 7 [_, _, _] _ _ _
  refine xr_iload2 dX9_least_7 rfl ?_
  refine xr_if_eq 15 dX9_least_8 (by decide) (fun hz => ?_) (fun hz => ?_)
  rotate_left
  · skip
    refine xr_iload2 dX9_least_11 rfl ?_
    refine xr_goto 19 dX9_least_12 (by decide) ?_
    refine xr_iret dX9_least_19 rfl rfl ⟨by rw [sp_least, if_neg hz], hI1, hf1⟩
  obtain ⟨hwh, hs, i, j, H1, g1, hl, md, z26, ai, z27, aj, hp, -, ca⟩ := h2 hz
  have hK4 := h.2.1.1.2.1
  refine xr_aload0 dX9_least_15 rfl ?_
  refine xr_cVi [] dX9_least_16 (xcv_of cf_X9_partAll ml_9_212 (by decide)) rfl lay_77 rfl rfl rfl (Nat.le_of_ble_eq_true rfl) (c9_partAll hI1.2.1 H1.1 hl md (fun a ha x hx => by have := wout_lt h.2.1.1 hwh (g1.2 a ha).2.2 hx; omega)) (fun v I2 J2 hc => ?_)
  obtain ⟨⟨l, hl14, rfl, hst, cl⟩, -, f2, rfl⟩ := hc
  refine xr_iret dX9_least_19 rfl rfl ⟨?_, f2.iv hI1 (by decide) (by decide), fun q hq => ?_⟩
  · rw [sp_least, if_pos hz, ncl_nUn (fun a ha b hb => stb_al (hd_clo md) hst ha hb) hp.2]
  · have := f2.fr (J := J1) (by decide) rfl q hq
    exact ⟨this.1.trans (hf1 q hq).1, this.2.trans (hf1 q hq).2⟩
end M18
