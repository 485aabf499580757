section M29
variable {G : xG} {I : xI} {J : xJ}
theorem wW_good {M : xMac} {m : Nat} (hm : m ≤ 16) : hGood M (wW M m) := ⟨wW_nodup M m, fun a ha => by
  obtain ⟨h1, h2, h3⟩ := wW_mem.mp ha
  exact ⟨by omega, h2, h1⟩⟩
theorem wW_clo {M : xMac} (hM : mOk M) (hwh : mWhole M) {m : Nat} : hClo M (wW M m) := fun a ha x hx => by
  obtain ⟨h1, h2, h3⟩ := wW_mem.mp ha
  obtain ⟨p1, p2, p3⟩ := wpart_good hM hwh h1 hx
  exact wW_mem.mpr ⟨p1, p2, by omega⟩
theorem wW_ext {M : xMac} (hM : mOk M) (hwh : mWhole M) {m : Nat} {hs : List (List Nat)} (h : hExt M (wW M m) hs) (hn : hs.Nodup) : hs = wW M m := by
  have h1 := h.2 (fun a => a ∈ wW M m) (fun a ha => ha) (fun a x ha hx => wW_clo hM hwh a ha x hx)
  have h2 := nodup_len hn h1
  obtain ⟨e, rfl⟩ := h.1
  rw [List.length_append] at h2
  rw [List.eq_nil_of_length_eq_zero (l := e) (by omega), List.append_nil]
theorem wW_at0 (M : xMac) : ∀ m, (wW M m)[0]? = some []
  | 0 => rfl
  | m + 1 => by
    unfold wW
    rw [List.getElem?_append_left (List.getElem?_eq_some_iff.mp (wW_at0 M m)).1]
    exact wW_at0 M m
noncomputable def sp_growth (S : xSt) (m : Int32) : Int32 := if sp_short S m = 0 then nI (nUn S.2.1 (fun w => w ∈ wW S.2.1 (w2n m))) else sp_short S m
/-- is the word with this number a law -/
noncomputable def isLw (M : xMac) (m h : Nat) : Bool := decide (0 < h) && wA M ((wW M m).getD h []) []
noncomputable def lawN (M : xMac) (m : Nat) : Nat := cnt (isLw M m) (wW M m).length
noncomputable def lawAt (M : xMac) (m : Nat) (i : Int32) : Option Nat := (List.range (wW M m).length).find? (fun h => isLw M m h && decide (nI (cnt (isLw M m) h) = i))
noncomputable def sp_laws (S : xSt) (m : Int32) : Int32 := if sp_short S m = 0 then nI (lawN S.2.1 (w2n m)) else sp_short S m
noncomputable def sp_law (S : xSt) (m i to : Int32) : Int32 × xSt := match ix to 8 with
  | none => (-1, S)
  | some to => if sp_short S m = 0 then (match lawAt S.2.1 (w2n m) i with
    | none => (-8, S)
    | some h => (nI ((wW S.2.1 (w2n m)).getD h []).length, (S.1, S.2.1, va_up S.2.2 to ((wW S.2.1 (w2n m)).getD h [])))) else (sp_short S m, S)
theorem sub_sub (a z : Int32) : a - (a - z) = z := by rw [Int32.sub_eq_add_neg, Int32.neg_sub, Int32.sub_eq_add_neg, Int32.add_comm z, ← Int32.add_assoc, Int32.add_right_neg, Int32.zero_add]
theorem find_first {p : Nat → Bool} {n h : Nat} (hh : h < n) (hp : p h = true) (hb : ∀ k, k < h → p k = false) : (List.range n).find? p = some h := by
  rw [List.find?_eq_some_iff_getElem]
  refine ⟨hp, h, by simpa using hh, by simp, fun j hj => ?_⟩
  simp [hb j hj]
theorem find_nothing {p : Nat → Bool} {n : Nat} (hb : ∀ k, k < n → p k = false) : (List.range n).find? p = none := by
  rw [List.find?_eq_none]
  intro x hx
  simp [hb x (List.mem_range.mp hx)]
theorem short_0 {S : xSt} {m : Int32} (h : sp_short S m = 0) : w2n m < 6 ∧ (wW S.2.1 (w2n m)).length ≤ 200 := by
  unfold sp_short at h
  cases hm : ix m 6 with
  | none => rw [hm] at h; exact absurd h (show ¬ (-1 : Int32) = 0 by decide)
  | some m' =>
    obtain ⟨h6, rfl⟩ := ix_some hm
    rw [hm] at h
    rw [w2n_nI (by omega)]
    refine ⟨h6, ?_⟩
    dsimp only at h
    split at h
    · exact absurd h (by decide)
    · split at h
      · exact absurd h (by decide)
      · omega
theorem short_ret {S : xSt} {m : Int32} (h : ¬ sp_short S m = 0) : sp_short S m < 0 := by
  unfold sp_short at h ⊢
  cases hm : ix m 6 with
  | none => show (-1 : Int32) < 0; decide
  | some m' =>
    rw [hm] at h
    dsimp only at h ⊢
    split
    · decide
    · rename_i q
      rw [if_neg q] at h
      split
      · decide
      · rename_i q2
        rw [if_neg q2] at h
        exact absurd rfl h
theorem c9_growth {S : xSt} (m : Int32) (h : mIv I S) : xCon G M_X9_growth [.ref (G.1 77), .int m] I J (xpi fun v I' J' => v = sp_growth S m ∧ mIv I' S ∧ mfr I J I' J') := by
  refine x_ent (by decide) (Nat.le_of_ble_eq_true rfl) rfl ?_
  show xT _ _ _ 0 [_, _, _, _] _ _ _
  refine xr_aload0 dX9_growth_0 rfl ?_
  refine xr_iload1 dX9_growth_1 rfl ?_
  refine xr_cVi [_] dX9_growth_2 (xcv_of cf_X9_takeShort ml_9_293 (by decide)) rfl lay_77 rfl rfl rfl (Nat.le_of_ble_eq_true rfl) (c9_takeShort m h) (fun v I1 J1 hc => ?_)
  obtain ⟨rfl, h2, x1, f1, rfl⟩ := hc
  have hI1 : mIv I1 S := ⟨f1.sh h.1 (by decide), f1.mach h.2.1 (by decide) (by decide), h.2.2.keep x1 (by decide)⟩
  refine xr_istore2 dX9_growth_5 (Nat.le_of_ble_eq_true rfl) ?_
  show xT _ _ _ 6 [_, _, _, _] _ _ _
  refine xr_iload2 dX9_growth_6 rfl ?_
  refine xr_if_eq 12 dX9_growth_7 (by decide) (fun hz => ?_) (fun hz => ?_)
  rotate_left
  · skip
    refine xr_iload2 dX9_growth_10 rfl ?_
    refine xr_iret dX9_growth_11 rfl rfl ⟨by rw [sp_growth, if_neg hz], hI1, f1.fr (by decide) rfl⟩
  obtain ⟨hwh, H1, z1⟩ := h2 hz
  obtain ⟨hm6, hl⟩ := short_0 hz
  have hM := h.2.1.1
  have hK4 := hM.2.1
  refine xr_aload0 dX9_growth_12 rfl ?_
  refine xr_cVi [] dX9_growth_13 (xcv_of cf_X9_grow ml_9_209 (by decide)) rfl lay_77 rfl rfl rfl (Nat.le_of_ble_eq_true rfl) (c9_grow hI1.2.1 hwh H1 (wW_good (by omega)) (Nat.zero_le _) z1 (fun k hk q => by omega)) (fun v I2 J2 hc => ?_)
  obtain ⟨⟨hs, rfl, H2, g2, e2, c2⟩, x2, f2, rfl⟩ := hc
  have := wW_ext hM hwh e2 g2.1
  subst this
  obtain ⟨md, -⟩ := c2 hl
  have hI2 : mIv I2 S := ⟨f2.sh hI1.1 (by decide), f2.mach hI1.2.1 (by decide) (by decide), hI1.2.2.keep x2 (by decide)⟩
  refine xr_istore3 dX9_growth_16 (Nat.le_of_ble_eq_true rfl) ?_
  show xT _ _ _ 17 [_, _, _, _] _ _ _
  refine xr_aload0 dX9_growth_17 rfl ?_
  refine xr_cVi [] dX9_growth_18 (xcv_of cf_X9_partAll ml_9_212 (by decide)) rfl lay_77 rfl rfl rfl (Nat.le_of_ble_eq_true rfl) (c9_partAll hI2.2.1 H2.1 hl md (fun a ha x hx => by have := wout_lt hM hwh (g2.2 a ha).2.2 hx; omega)) (fun v I3 J3 hc => ?_)
  obtain ⟨⟨l, hl14, rfl, hst, cl⟩, -, f3, rfl⟩ := hc
  refine xr_iret dX9_growth_21 rfl rfl ⟨?_, f3.iv hI2 (by decide) (by decide), fun q hq => ?_⟩
  · rw [sp_growth, if_pos hz, ncl_nUn (fun a ha b hb => stb_al (hd_clo md) hst ha hb) (fun w => Iff.rfl)]
  · have a1 := f1.fr (J := J) (by decide) rfl q hq
    have a2 := f2.fr (J := J) (by decide) rfl q hq
    have a3 := f3.fr (J := J) (by decide) rfl q hq
    exact ⟨a3.1.trans (a2.1.trans a1.1), rfl⟩
theorem c9_findLaw {M : xMac} {m : Nat} (hMa : mMach I M) (hwh : mWhole M) (hm6 : m < 6) (H1 : mHp I (wW M m)) (hl : (wW M m).length ≤ 200) (z1 : I 77 22 = nI 0) (i : Int32) : xCon G M_X9_findLaw [.ref (G.1 77), .int i] I J (xpi fun v I' J' => v = (match lawAt M m i with
    | none => -1 - nI (lawN M m)
    | some h => nI h) ∧ mHp I' (wW M m) ∧ mwx [9, 10] I I' ∧ mfx [83, 84, 89, 90, 91, 92, 93, 94, 95] [13, 14, 21, 22] I I' ∧ J = J') := by
  have hM := hMa.1
  have hK4 := hM.2.1
  refine x_ent (by decide) (Nat.le_of_ble_eq_true rfl) rfl ?_
  show xT _ _ _ 0 [_, _, _, _, _, _] _ _ _
  refine xr_aload0 dX9_findLaw_0 rfl ?_
  refine xr_cVi [] dX9_findLaw_1 (xcv_of cf_X9_grow ml_9_209 (by decide)) rfl lay_77 rfl rfl rfl (Nat.le_of_ble_eq_true rfl) (c9_grow hMa hwh H1 (wW_good (by omega)) (Nat.zero_le _) z1 (fun k hk q => by omega)) (fun v I2 J2 hc => ?_)
  obtain ⟨⟨hs, rfl, H2, g2, e2, c2⟩, x2, f2, rfl⟩ := hc
  have := wW_ext hM hwh e2 g2.1
  subst this
  obtain ⟨md, -⟩ := c2 hl
  refine xr_istore2 dX9_findLaw_4 (Nat.le_of_ble_eq_true rfl) ?_
  show xT _ _ _ 5 [_, _, _, _, _, _] _ _ _
  refine xr_aload0 dX9_findLaw_5 rfl ?_
  refine xr_cVi [] dX9_findLaw_6 (xcv_of cf_X9_partAll ml_9_212 (by decide)) rfl lay_77 rfl rfl rfl (Nat.le_of_ble_eq_true rfl) (c9_partAll (f2.mach hMa (by decide) (by decide)) H2.1 hl md (fun a ha x hx => by have := wout_lt hM hwh (g2.2 a ha).2.2 hx; omega)) (fun v I3 J3 hc => ?_)
  obtain ⟨⟨l, hl14, rfl, hst, ⟨c, c1, c2'⟩⟩, -, f3, rfl⟩ := hc
  have H3 : mHp I3 (wW M m) := f3.hp H2 (by decide) (by decide)
  have x3 : mwx [9, 10] I I3 := x2.tr (mwx.of (f3.1 83 (by decide) (by decide)) (f3.1 84 (by decide) (by decide)))
  have f23 : mfx [83, 84, 89, 90, 91, 92, 93, 94, 95] [13, 14, 21, 22] I I3 := (f2.mono (by simp) (by simp)).tr (f3.mono (by simp) (by simp))
  have h0l : 0 < (wW M m).length := (List.getElem?_eq_some_iff.mp (wW_at0 M m)).1
  have hcl := cnt_le (wFst M (wW M m) (l + 1)) (wW M m).length
  have hcn : ∀ k, cnt (isLw M m) k ≤ k := cnt_le _
  have hlaw : ∀ k, k < (wW M m).length → 0 < k → (c k = c 0 ↔ isLw M m k = true) := by
    intro k hk h0
    have h1 := c2' k 0 hk h0l
    have e0 : (wW M m).getD 0 [] = [] := getD_at (wW_at0 M m)
    rw [h1, e0, stb_al (hd_clo md) hst (by rw [getD_lt hk]; exact List.getElem_mem hk) (List.mem_of_getElem? (wW_at0 M m))]
    unfold isLw
    simp [h0, wA_iff]
  refine xr_istore3 dX9_findLaw_9 (Nat.le_of_ble_eq_true rfl) ?_
  show xT _ _ _ 10 [_, _, _, _, _, _] _ _ _
  refine xr_ic0 dX9_findLaw_10 ?_
  refine xr_istore dX9_findLaw_11 (Nat.le_of_ble_eq_true rfl) ?_
  show xT _ _ _ 13 [_, _, _, _, _, _] _ _ _
  refine xr_ic1 dX9_findLaw_13 ?_
  refine xr_istore dX9_findLaw_14 (Nat.le_of_ble_eq_true rfl) ?_
  show xT _ _ _ 16 [_, _, _, _, _, _] _ _ _
  have L : ∀ k, k ≤ (wW M m).length → 0 < k → (∀ k', k' < k → (isLw M m k' && decide (nI (cnt (isLw M m) k') = i)) = false) → xT G M_X9_findLaw (xMQ G (xpi fun v I' J' => v = (match lawAt M m i with | none => -1 - nI (lawN M m) | some h => nI h) ∧ mHp I' (wW M m) ∧ mwx [9, 10] I I' ∧ mfx [83, 84, 89, 90, 91, 92, 93, 94, 95] [13, 14, 21, 22] I I' ∧ J = J')) 16 [some (.ref (G.1 77)), some (.int i), some (.int (b2 (decide ((wW M m).length ≤ 200)))), some (.int (nI (ncl M (wW M m) (l + 1)))), some (.int (nI (cnt (isLw M m) k))), some (.int (nI k))] [] I3 J := by
    refine x_for (fun k hk IH h0 hb => ?_)
    refine xr_iload dX9_findLaw_16 rfl ?_
    refine xr_aload0 dX9_findLaw_18 rfl ?_
    refine xr_getIv dX9_findLaw_19 fk_9_178 lay_77 rfl H3.1 ?_
    refine xr_icmp_ge 59 dX9_findLaw_22 (by decide) (fun hc => ?_) (fun hc => ?_)
    · have hkk : k = (wW M m).length := by have := nle hc; omega
      subst hkk
      refine xr_icm1 dX9_findLaw_59 ?_
      refine xr_iload dX9_findLaw_60 rfl ?_
      refine xr_isub dX9_findLaw_62 ?_
      refine xr_iret dX9_findLaw_63 rfl rfl ⟨?_, H3, x3, f23, rfl⟩
      rw [show lawAt M m i = none from find_nothing hb]
      rfl
    · have hkl := nlt hc
      have IH := IH hkl (by omega)
      have q1 := c1 k hkl
      have q0 := c1 0 h0l
      have hnc := hcn k
      refine xr_aload0 dX9_findLaw_25 rfl ?_
      refine xr_getR dX9_findLaw_26 fk_9_60 lay_77 rfl ?_
      refine xr_iload dX9_findLaw_29 rfl ?_
      refine xr_ialdv _ dX9_findLaw_31 lay_93 rfl (by omega) (by decide) q1.1 ?_
      refine xr_aload0 dX9_findLaw_32 rfl ?_
      refine xr_getR dX9_findLaw_33 fk_9_60 lay_77 rfl ?_
      refine xr_ic0 dX9_findLaw_36 ?_
      refine xr_ialdv 0 dX9_findLaw_37 lay_93 rfl (by omega) (by decide) q0.1 ?_
      show xT _ _ _ 38 _ _ _ _
      refine xr_icmp_ne 53 dX9_findLaw_38 (by decide) (fun hne => ?_) (fun hne => ?_)
      · have hnl : isLw M m k = false := by
          cases hq : isLw M m k with
          | false => rfl
          | true => exact absurd (by rw [(hlaw k hkl h0).mpr hq]) hne
        have ec : cnt (isLw M m) (k + 1) = cnt (isLw M m) k := by show cnt (isLw M m) k + cond (isLw M m k) 1 0 = _; rw [hnl]; rfl
        rw [ec] at IH
        refine xr_iinc dX9_findLaw_53 rfl ii_1 (Nat.le_of_ble_eq_true rfl) ?_
        show xT _ _ _ 56 [_, _, _, _, _, _] _ _ _
        refine xr_goto 16 dX9_findLaw_56 (by decide) ?_
        rw [k_1, nI_add]
        exact IH (fun k' hk' => by
          by_cases e : k' = k
          · rw [e, hnl]; rfl
          · exact hb k' (by omega))
      · have hil : isLw M m k = true := (hlaw k hkl h0).mp ((nI_eq (by omega) (by omega)).mp hne)
        have ec : cnt (isLw M m) (k + 1) = cnt (isLw M m) k + 1 := by show cnt (isLw M m) k + cond (isLw M m k) 1 0 = _; rw [hil]; rfl
        refine xr_iload dX9_findLaw_41 rfl ?_
        refine xr_iload1 dX9_findLaw_43 rfl ?_
        refine xr_icmp_ne 50 dX9_findLaw_44 (by decide) (fun hi => ?_) (fun hi => ?_)
        · skip
          refine xr_iinc dX9_findLaw_50 rfl ii_1 (Nat.le_of_ble_eq_true rfl) ?_
          show xT _ _ _ 53 [_, _, _, _, _, _] _ _ _
          refine xr_iinc dX9_findLaw_53 rfl ii_1 (Nat.le_of_ble_eq_true rfl) ?_
          show xT _ _ _ 56 [_, _, _, _, _, _] _ _ _
          refine xr_goto 16 dX9_findLaw_56 (by decide) ?_
          rw [k_1, nI_add, nI_add]
          rw [ec] at IH
          exact IH (fun k' hk' => by
            by_cases e : k' = k
            · rw [e, hil]
              simpa using hi
            · exact hb k' (by omega))
        · skip
          refine xr_iload dX9_findLaw_47 rfl ?_
          refine xr_iret dX9_findLaw_49 rfl rfl ⟨?_, H3, x3, f23, rfl⟩
          rw [show lawAt M m i = some k from find_first hkl (by rw [hil]; simpa using hi) hb]
  have L1 := L 1 (by omega) (by omega) (fun k' hk' => by
    have : k' = 0 := by omega
    subst this
    simp [isLw])
  have e1 : cnt (isLw M m) 1 = 0 := by
    show cnt (isLw M m) 0 + cond (isLw M m 0) 1 0 = 0
    simp [isLw, cnt]
  rw [e1] at L1
  exact L1
theorem c9_laws {S : xSt} (m : Int32) (h : mIv I S) : xCon G M_X9_laws [.ref (G.1 77), .int m] I J (xpi fun v I' J' => v = sp_laws S m ∧ mIv I' S ∧ mfr I J I' J') := by
  refine x_ent (by decide) (Nat.le_of_ble_eq_true rfl) rfl ?_
  show xT _ _ _ 0 [_, _, _] _ _ _
  refine xr_aload0 dX9_laws_0 rfl ?_
  refine xr_iload1 dX9_laws_1 rfl ?_
  refine xr_cVi [_] dX9_laws_2 (xcv_of cf_X9_takeShort ml_9_293 (by decide)) rfl lay_77 rfl rfl rfl (Nat.le_of_ble_eq_true rfl) (c9_takeShort m h) (fun v I1 J1 hc => ?_)
  obtain ⟨rfl, h2, x1, f1, rfl⟩ := hc
  have hI1 : mIv I1 S := ⟨f1.sh h.1 (by decide), f1.mach h.2.1 (by decide) (by decide), h.2.2.keep x1 (by decide)⟩
  refine xr_istore2 dX9_laws_5 (Nat.le_of_ble_eq_true rfl) ?_
  show xT _ _ _ 6 [_, _, _] _ _ _
  refine xr_iload2 dX9_laws_6 rfl ?_
  refine xr_if_eq 14 dX9_laws_7 (by decide) (fun hz => ?_) (fun hz => ?_)
  rotate_left
  · skip
    refine xr_iload2 dX9_laws_10 rfl ?_
    refine xr_goto 21 dX9_laws_11 (by decide) ?_
    refine xr_iret dX9_laws_21 rfl rfl ⟨by rw [sp_laws, if_neg hz], hI1, f1.fr (by decide) rfl⟩
  obtain ⟨hwh, H1, z1⟩ := h2 hz
  obtain ⟨hm6, hl⟩ := short_0 hz
  have hn := cnt_le (isLw S.2.1 (w2n m)) (wW S.2.1 (w2n m)).length
  refine xr_icm1 dX9_laws_14 ?_
  refine xr_aload0 dX9_laws_15 rfl ?_
  refine xr_icm1 dX9_laws_16 ?_
  refine xr_cVi [_] dX9_laws_17 (xcv_of cf_X9_findLaw ml_9_296 (by decide)) rfl lay_77 rfl rfl rfl (Nat.le_of_ble_eq_true rfl) (c9_findLaw hI1.2.1 hwh hm6 H1 hl z1 (-1)) (fun v I2 J2 hc => ?_)
  obtain ⟨rfl, H2, x2, f2, rfl⟩ := hc
  have hno : lawAt S.2.1 (w2n m) (-1) = none := find_nothing (fun k hk => by
    have h1 := cnt_le (isLw S.2.1 (w2n m)) k
    have : ¬ nI (cnt (isLw S.2.1 (w2n m)) k) = -1 := fun q => by
      have := congrArg Int32.toInt q
      rw [nI_toInt (by omega)] at this
      rw [ti_m1] at this
      omega
    simp [this])
  rw [hno]
  refine xr_isub dX9_laws_20 ?_
  refine xr_iret dX9_laws_21 rfl rfl ⟨?_, ⟨f2.sh hI1.1 (by decide), f2.mach hI1.2.1 (by decide) (by decide), hI1.2.2.keep x2 (by decide)⟩, fun q hq => ?_⟩
  · rw [sp_laws, if_pos hz]
    exact sub_sub (-1) _
  · have a1 := f1.fr (J := J) (by decide) rfl q hq
    have a2 := f2.fr (J := J) (by decide) rfl q hq
    exact ⟨a2.1.trans a1.1, rfl⟩
theorem c9_law {S : xSt} (m i to : Int32) (h : mIv I S) : xCon G M_X9_law [.ref (G.1 77), .int m, .int i, .int to] I J (xpi fun v I' J' => v = (sp_law S m i to).1 ∧ mIv I' (sp_law S m i to).2 ∧ mfr I J I' J') := by
  refine x_ent (by decide) (Nat.le_of_ble_eq_true rfl) rfl ?_
  show xT _ _ _ 0 [_, _, _, _, _, _] _ _ _
  refine xr_iload3 dX9_law_0 rfl ?_
  refine xr_cSi [_] dX9_law_1 (xcs_of cf_X9_isSpot ml_9_137 (by decide)) rfl rfl (Nat.le_of_ble_eq_true rfl) (c9_isSpot _) (fun v I1 J1 hc => ?_)
  obtain ⟨rfl, rfl, rfl⟩ := hc
  refine xr_if_ne 9 dX9_law_4 (by decide) (fun ht => ?_) (fun ht => ?_)
  rotate_left
  · have ht := is_n ht
    refine xr_icm1 dX9_law_7 ?_
    have e : sp_law S m i to = (-1, S) := by unfold sp_law; rw [ht]
    rw [e]
    refine xr_iret dX9_law_8 rfl rfl ⟨rfl, h, mfr.rf⟩
  obtain ⟨t', ht⟩ := is_s ht
  obtain ⟨ht8, rfl⟩ := ix_some ht
  refine xr_aload0 dX9_law_9 rfl ?_
  refine xr_iload1 dX9_law_10 rfl ?_
  refine xr_cVi [_] dX9_law_11 (xcv_of cf_X9_takeShort ml_9_293 (by decide)) rfl lay_77 rfl rfl rfl (Nat.le_of_ble_eq_true rfl) (c9_takeShort m h) (fun v I1 J1 hc => ?_)
  obtain ⟨rfl, h2, x1, f1, rfl⟩ := hc
  have hI1 : mIv I1 S := ⟨f1.sh h.1 (by decide), f1.mach h.2.1 (by decide) (by decide), h.2.2.keep x1 (by decide)⟩
  refine xr_istore dX9_law_14 (Nat.le_of_ble_eq_true rfl) ?_
  show xT _ _ _ 16 [_, _, _, _, _, _] _ _ _
  refine xr_iload dX9_law_16 rfl ?_
  refine xr_if_eq 24 dX9_law_18 (by decide) (fun hz => ?_) (fun hz => ?_)
  rotate_left
  · skip
    refine xr_iload dX9_law_21 rfl ?_
    have e : sp_law S m i (nI t') = (sp_short S m, S) := by unfold sp_law; rw [ht]; simp only [if_neg hz]
    rw [e]
    refine xr_iret dX9_law_23 rfl rfl ⟨rfl, hI1, f1.fr (by decide) rfl⟩
  obtain ⟨hwh, H1, z1⟩ := h2 hz
  obtain ⟨hm6, hl⟩ := short_0 hz
  have hn := cnt_le (isLw S.2.1 (w2n m)) (wW S.2.1 (w2n m)).length
  refine xr_aload0 dX9_law_24 rfl ?_
  refine xr_iload2 dX9_law_25 rfl ?_
  refine xr_cVi [_] dX9_law_26 (xcv_of cf_X9_findLaw ml_9_296 (by decide)) rfl lay_77 rfl rfl rfl (Nat.le_of_ble_eq_true rfl) (c9_findLaw hI1.2.1 hwh hm6 H1 hl z1 i) (fun v I2 J2 hc => ?_)
  obtain ⟨rfl, H2, x2, f2, rfl⟩ := hc
  have hI2 : mIv I2 S := ⟨f2.sh hI1.1 (by decide), f2.mach hI1.2.1 (by decide) (by decide), hI1.2.2.keep x2 (by decide)⟩
  have fr2 : mfr I J I2 J := fun q hq => by
    have a1 := f1.fr (J := J) (by decide) rfl q hq
    have a2 := f2.fr (J := J) (by decide) rfl q hq
    exact ⟨a2.1.trans a1.1, rfl⟩
  cases hla : lawAt S.2.1 (w2n m) i with
  | none =>
    have e : sp_law S m i (nI t') = (-8, S) := by unfold sp_law; rw [ht]; simp only [if_pos hz, hla]
    rw [e]
    refine xr_istore dX9_law_29 (Nat.le_of_ble_eq_true rfl) ?_
    show xT _ _ _ 31 [_, _, _, _, _, _] _ _ _
    refine xr_iload dX9_law_31 rfl ?_
    refine xr_if_ge 39 dX9_law_33 (by decide) (fun hneg => ?_) (fun hneg => ?_)
    · exfalso
      have hn' : lawN S.2.1 (w2n m) ≤ 200 := by unfold lawN; omega
      have q : (-1 - nI (lawN S.2.1 (w2n m))).toInt = -1 - (lawN S.2.1 (w2n m) : Int) := by
        rw [Int32.toInt_sub, ti_m1, nI_toInt (by omega), Int.bmod_eq_of_le (by omega) (by omega)]
      have q2 := le_toInt.mp hneg
      rw [q, ti_0] at q2
      omega
    refine xr_bip bi_m8 dX9_law_36 ?_
    refine xr_iret dX9_law_38 rfl rfl ⟨rfl, hI2, fr2⟩
  | some hh =>
    have hhl : hh < (wW S.2.1 (w2n m)).length := List.mem_range.mp (List.mem_of_find?_eq_some hla)
    have e : sp_law S m i (nI t') = (nI ((wW S.2.1 (w2n m)).getD hh []).length, (S.1, S.2.1, va_up S.2.2 t' ((wW S.2.1 (w2n m)).getD hh []))) := by unfold sp_law; rw [ht]; simp only [if_pos hz, hla]
    rw [e]
    refine xr_istore dX9_law_29 (Nat.le_of_ble_eq_true rfl) ?_
    show xT _ _ _ 31 [_, _, _, _, _, _] _ _ _
    refine xr_iload dX9_law_31 rfl ?_
    refine xr_if_ge 39 dX9_law_33 (by decide) (fun hneg => ?_) (fun hneg => ?_)
    rotate_left
    · exact absurd ((nI_leI (a := 0) (b := hh) (by omega) (by omega)).mpr (Nat.zero_le _)) hneg
    refine xr_aload0 dX9_law_39 rfl ?_
    refine xr_iload dX9_law_40 rfl ?_
    refine xr_iload3 dX9_law_42 rfl ?_
    refine xr_cVv [_, _] dX9_law_43 (xcv_of cf_X9_fromHeap ml_9_188 (by decide)) rfl lay_77 rfl rfl rfl (Nat.le_of_ble_eq_true rfl) (c9_fromHeap H2 hhl (by omega)) (fun I3 J3 hc => ?_)
    obtain ⟨d3, x3, f3, rfl⟩ := hc
    rw [getD_lt hhl]
    have hgw := (wW_good (M := S.2.1) (m := w2n m) (by omega)).2 _ (List.getElem_mem hhl)
    refine xr_aload0 dX9_law_46 rfl ?_
    refine xr_getR dX9_law_47 fk_9_32 lay_77 rfl ?_
    refine xr_iload3 dX9_law_50 rfl ?_
    refine xr_ialdv _ dX9_law_51 lay_84 rfl (by omega) (by decide) d3.1 ?_
    refine xr_iret dX9_law_52 rfl rfl ⟨rfl, ⟨f3.sh hI2.1 (by decide), f3.mach hI2.2.1 (by decide) (by decide), hI2.2.2.set (x3.mono (by simp)) (W := []) (by simp) d3 hgw⟩, fun q hq => ?_⟩
    have a3 := f3.fr (J := J) (by decide) rfl q hq
    exact ⟨a3.1.trans (fr2 q hq).1, rfl⟩
end M29
