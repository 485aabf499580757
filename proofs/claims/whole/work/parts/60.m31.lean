section M31
variable {G : xG} {I : xI} {J : xJ}
noncomputable def fallFt (M : xMac) (t : Nat) : List (List Nat) := [] :: ((mMarks M).take t).map (fun t => [t])
theorem fallFt_len {M : xMac} {t : Nat} (ht : t ≤ (mMarks M).length) : (fallFt M t).length = t + 1 := by simp [fallFt]; omega
theorem fallFt_all (M : xMac) : fallFt M (mMarks M).length = wW M 1 := by
  have : (mMarks M).filter (fun _ => true) = mMarks M := List.filter_eq_self.mpr (fun _ _ => rfl)
  simp [fallFt, wW, wlay, wx, this]
theorem fallF0_eq (M : xMac) : fallF0 M = wW M 1 := by
  have : (mMarks M).filter (fun _ => true) = mMarks M := List.filter_eq_self.mpr (fun _ _ => rfl)
  simp [fallF0, wW, wlay, wx, this]
theorem fallFt_step {M : xMac} {t : Nat} (ht : t < (mMarks M).length) : fallFt M (t + 1) = fallFt M t ++ [[(mMarks M)[t]]] := by
  unfold fallFt
  rw [List.take_succ_eq_append_getElem ht, List.map_append]
  rfl
theorem fallFt_new {M : xMac} {t : Nat} (ht : t < (mMarks M).length) : [(mMarks M)[t]] ∉ fallFt M t := by
  intro h
  have hn := wW_nodup M 1
  rw [← fallFt_all] at hn
  have : ∀ n, t + 1 ≤ n → n ≤ (mMarks M).length → ∃ e, fallFt M n = fallFt M (t + 1) ++ e := by
    intro n h1 h2
    refine ⟨(((mMarks M).take n).drop (t + 1)).map (fun t => [t]), ?_⟩
    unfold fallFt
    rw [List.cons_append, ← List.map_append]
    congr 2
    conv => lhs; rw [← List.take_append_drop (t + 1) ((mMarks M).take n)]
    rw [List.take_take, Nat.min_eq_left h1]
  obtain ⟨e, he⟩ := this _ ht (Nat.le_refl _)
  rw [he, fallFt_step ht, List.append_assoc, List.nodup_append] at hn
  exact hn.2.2 _ h _ (by simp) rfl
theorem fallFt_16 {M : xMac} (hN : mN M ≤ 8) {t : Nat} : ∀ a ∈ fallFt M t, ∀ m ∈ a, m < 16 := by
  intro a ha m hm
  unfold fallFt at ha
  rcases List.mem_cons.mp ha with rfl | ha
  · cases hm
  · obtain ⟨q, hq, rfl⟩ := List.mem_map.mp ha
    rw [List.mem_singleton.mp hm]
    have := (mMarks_ok M q (List.mem_of_mem_take hq)).1
    omega
theorem c9_beginFall {M : xMac} (hMa : mMach I M) (hwh : mWhole M) : xCon G M_X9_beginFall [.ref (G.1 77)] I J (xpi fun v I' J' => v = 1 ∧ mFl I' M (fallF0 M) (fallF0 M) ∧ mTk I' M ∧ mwx [8, 9, 10] I I' ∧ mfx [83, 84, 85, 86, 89, 90, 91, 92, 93, 94, 95, 104] [11, 13, 14, 21, 22, 41] I I' ∧ J = J') := by
  have hM := hMa.1
  have hN8 := hM.2.2.1
  have hK4 := hM.2.1
  have hml := mMarks_len M
  -- the loop over the marks
  have L : ∀ t, t ≤ (mMarks M).length → ∀ I1, mHp I1 (fallFt M t) → mTk I1 M → I1 77 22 = nI 0 → I1 77 41 = nI (t + 1) → (∀ k, k ≤ t → I1 104 k = nI k) → mwx [8, 9, 10] I I1 → mfx [83, 84, 85, 86, 89, 90, 91, 92, 93, 94, 95, 104] [11, 13, 14, 21, 22, 41] I I1 → xT G M_X9_beginFall (xMQ G (xpi fun v I' J' => v = 1 ∧ mFl I' M (fallF0 M) (fallF0 M) ∧ mTk I' M ∧ mwx [8, 9, 10] I I' ∧ mfx [83, 84, 85, 86, 89, 90, 91, 92, 93, 94, 95, 104] [11, 13, 14, 21, 22, 41] I I' ∧ J = J')) 35 [some (.ref (G.1 77)), some (.int (nI t)), none] [] I1 J := by
    refine x_for (fun t ht IH I1 H1 tk1 z22 z41 a104 x1 f1 => ?_)
    refine xr_iload1 dX9_beginFall_35 rfl ?_
    refine xr_aload0 dX9_beginFall_36 rfl ?_
    refine xr_getIv dX9_beginFall_37 fk_9_127 lay_77 rfl tk1.1 ?_
    refine xr_icmp_ge 94 dX9_beginFall_40 (by decide) (fun hc => ?_) (fun hc => ?_)
    · have htt : t = (mMarks M).length := by have := nle hc; omega
      subst htt
      have hlen := fallFt_len (M := M) (Nat.le_refl _)
      rw [fallFt_all] at H1 hlen
      refine xr_aload0 dX9_beginFall_94 rfl ?_
      refine xr_cVi [] dX9_beginFall_95 (xcv_of cf_X9_grow ml_9_209 (by decide)) rfl lay_77 rfl rfl rfl (Nat.le_of_ble_eq_true rfl) (c9_grow (f1.mach hMa (by decide) (by decide)) hwh H1 (wW_good (by omega)) (Nat.zero_le _) z22 (fun k hk q => by omega)) (fun v I2 J2 hc => ?_)
      obtain ⟨⟨hs, rfl, H2, g2, e2, c2⟩, x2, f2, rfl⟩ := hc
      have := wW_ext hM hwh e2 g2.1
      subst this
      have hl : (wW M 1).length ≤ 200 := by omega
      obtain ⟨md, z2⟩ := c2 hl
      have f12 : mfx [83, 84, 85, 86, 89, 90, 91, 92, 93, 94, 95, 104] [11, 13, 14, 21, 22, 41] I I2 := f1.tr (f2.mono (by simp) (by simp))
      have eb : b2 (decide ((wW M 1).length ≤ 200)) = 1 := by simp [hl, b2]
      rw [eb]
      refine xr_istore1 dX9_beginFall_98 (Nat.le_of_ble_eq_true rfl) ?_
      show xT _ _ _ 99 [_, _, _] _ _ _
      refine xr_iload1 dX9_beginFall_99 rfl ?_
      refine xr_if_eq 110 dX9_beginFall_100 (by decide) (fun hz => ?_) (fun hz => ?_)
      · exact absurd hz (by decide)
      refine xr_aload0 dX9_beginFall_103 rfl ?_
      refine xr_cVi [] dX9_beginFall_104 (xcv_of cf_X9_partAll ml_9_212 (by decide)) rfl lay_77 rfl rfl rfl (Nat.le_of_ble_eq_true rfl) (c9_partAll (f12.mach hMa (by decide) (by decide)) H2.1 hl md (fun a ha x hx => by have := wout_lt hM hwh (g2.2 a ha).2.2 hx; omega)) (fun v I3 J3 hc => ?_)
      obtain ⟨⟨l, hl14, rfl, hst, cl⟩, -, f3, rfl⟩ := hc
      refine xr_goto 111 dX9_beginFall_107 (by decide) ?_
      refine xr_istore2 dX9_beginFall_111 (Nat.le_of_ble_eq_true rfl) ?_
      show xT _ _ _ 112 [_, _, _] _ _ _
      refine xr_iload1 dX9_beginFall_112 rfl ?_
      refine xr_zret dX9_beginFall_113 rfl rfl (by simp) ⟨rfl, ?_, ?_, (x1.tr (x2.mono (by simp))).tr (mwx.of (f3.1 83 (by decide) (by decide)) (f3.1 84 (by decide) (by decide))), f12.tr (f3.mono (by simp) (by simp)), rfl⟩
      · rw [fallF0_eq]
        refine ⟨f3.hp H2 (by decide) (by decide), g2, hl, fun k hk hk2 y hy => ?_, by rw [f3.2 22 (by decide)]; exact z2, ⟨l, hl14, hst, cl⟩, ?_, by omega, fun k hk => ⟨k, ?_, List.getElem?_eq_getElem hk⟩⟩
        · rw [f3.1 91 (by decide) (by decide), f3.1 92 (by decide) (by decide)]; exact md k hk hk2 y hy
        · rw [f3.2 41 (by decide), f2.2 41 (by decide), z41, hlen]
        · rw [f3.1 104 (by decide) (by decide), f2.1 104 (by decide) (by decide)]; exact a104 k (by omega)
      · exact ⟨by rw [f3.2 11 (by decide), f2.2 11 (by decide)]; exact tk1.1, by rw [f3.1 86 (by decide) (by decide), f2.1 86 (by decide) (by decide)]; exact tk1.2⟩
    · have htl := nlt hc
      have IH := IH htl
      have hlen := fallFt_len (M := M) ht
      have hmo := mMarks_ok M _ (List.getElem_mem htl)
      have hm16 : (mMarks M)[t] < 16 := by have := hmo.1; omega
      have tkt : I1 86 t = tok (mMarks M)[t] := by
        have := tk1.2 t htl
        rw [Nat.zero_add] at this
        exact this
      refine xr_aload0 dX9_beginFall_43 rfl ?_
      refine xr_getR dX9_beginFall_44 fk_9_32 lay_77 rfl ?_
      refine xr_bip bi_8 dX9_beginFall_47 ?_
      refine xr_ic0 dX9_beginFall_49 ?_
      refine xr_iast 8 dX9_beginFall_50 lay_84 rfl (by decide) (by decide) ?_
      generalize hI2 : va_up I1 84 (upd (I1 84) 8 0) = I2
      have d2 : mWd I2 8 [] := ⟨by rw [← hI2, up_same, upd_same]; rfl, fun i hi => absurd hi (Nat.not_lt_zero _)⟩
      have e2 : I2 86 = I1 86 ∧ I2 77 = I1 77 ∧ I2 89 = I1 89 ∧ I2 90 = I1 90 ∧ I2 104 = I1 104 := by
        rw [← hI2]
        exact ⟨va_up_ne _ _ (by decide), va_up_ne _ _ (by decide), va_up_ne _ _ (by decide), va_up_ne _ _ (by decide), va_up_ne _ _ (by decide)⟩
      have f2 : mfx [83, 84, 85, 86, 89, 90, 91, 92, 93, 94, 95, 104] [11, 13, 14, 21, 22, 41] I I2 := by rw [← hI2]; exact f1.up _ (by decide) (by decide)
      have x2 : mwx [8, 9, 10] I I2 := x1.tr (fun v hv hvw => by
        have hvw' : v ≠ 8 := fun q => hvw (by rw [q]; simp)
        rw [← hI2, up_same, upd_ne _ _ hvw', va_up_ne _ _ (by decide)]
        exact ⟨rfl, fun _ _ => rfl⟩)
      have tkt2 : I2 86 t = tok (mMarks M)[t] := by rw [e2.1]; exact tkt
      refine xr_aload0 dX9_beginFall_51 rfl ?_
      refine xr_bip bi_8 dX9_beginFall_52 ?_
      refine xr_aload0 dX9_beginFall_54 rfl ?_
      refine xr_getR dX9_beginFall_55 fk_9_39 lay_77 rfl ?_
      refine xr_iload1 dX9_beginFall_58 rfl ?_
      refine xr_ialdv _ dX9_beginFall_59 lay_86 rfl (by omega) (by decide) tkt2 ?_
      refine xr_cVv [_, _] dX9_beginFall_60 (xcv_of cf_X9_add ml_9_144 (by decide)) rfl lay_77 rfl rfl rfl (Nat.le_of_ble_eq_true rfl) (c9_add (by decide) d2 (by simp) hm16 (fun q hq => by cases hq)) (fun I3 J3 hc => ?_)
      obtain ⟨d3, x3, f3, rfl⟩ := hc
      rw [show wpush [] (mMarks M)[t] = [(mMarks M)[t]] from rfl] at d3
      have H3 : mHp I3 (fallFt M t) := H1.cg (by rw [f3.2 21 (by decide), e2.2.1]) (by rw [f3.1 89 (by decide) (by decide), e2.2.2.1]) (by rw [f3.1 90 (by decide) (by decide), e2.2.2.2.1])
      have z3 : I3 77 41 = nI (t + 1) := by rw [f3.2 41 (by decide), e2.2.1]; exact z41
      refine xr_aload0 dX9_beginFall_63 rfl ?_
      refine xr_getR dX9_beginFall_64 fk_9_94 lay_77 rfl ?_
      refine xr_aload0 dX9_beginFall_67 rfl ?_
      refine xr_getIv dX9_beginFall_68 fk_9_299 lay_77 rfl z3 ?_
      refine xr_aload0 dX9_beginFall_71 rfl ?_
      refine xr_bip bi_8 dX9_beginFall_72 ?_
      refine xr_cVi [_] dX9_beginFall_74 (xcv_of cf_X9_toHeap ml_9_191 (by decide)) rfl lay_77 rfl rfl rfl (Nat.le_of_ble_eq_true rfl) (c9_toHeap H3 (fallFt_16 hN8) (by decide) d3 (by simp) (fun q hq => by rw [List.mem_singleton.mp hq]; exact hm16)) (fun v I4 J4 hc => ?_)
      obtain ⟨⟨o, hs4, rfl, to4, H4⟩, f4, rfl⟩ := hc
      have hs4e : hs4 = fallFt M (t + 1) ∧ o = some (t + 1) := by
        rw [fallFt_step htl]
        rcases to4 with ⟨j, -, ⟨h1, h2⟩, -⟩ | ⟨-, -, h1, h2⟩ | ⟨-, h1, -, -⟩
        · exact absurd (by rw [← h2]; exact List.getElem_mem h1) (fallFt_new htl)
        · exact ⟨h2, by rw [h1, hlen]⟩
        · omega
      obtain ⟨rfl, rfl⟩ := hs4e
      refine xr_iast (t + 1) dX9_beginFall_77 lay_104 rfl (by omega) (by decide) ?_
      generalize hI5 : va_up I4 104 (upd (I4 104) (t + 1) (oI (some (t + 1)))) = I5
      have z5 : I5 77 41 = nI (t + 1) := by rw [← hI5, va_up_ne _ _ (by decide), f4.2 41 (by decide)]; exact z3
      refine xr_aload0 dX9_beginFall_78 rfl ?_
      refine xr_dup dX9_beginFall_79 rfl ?_
      refine xr_getIv dX9_beginFall_80 fk_9_299 lay_77 rfl z5 ?_
      refine xr_ic1 dX9_beginFall_83 ?_
      refine xr_iadd dX9_beginFall_84 ?_
      refine xr_putI dX9_beginFall_85 fp_9_299 lay_77 rfl ?_
      rw [k_1, nI_add]
      generalize hI6 : va_up I5 77 (upd (I5 77) 41 (nI (t + 1 + 1))) = I6
      have f46 : mfx [104] [41] I4 I6 := by rw [← hI6, ← hI5]; exact (mfx.rf.up _ (by decide) (by decide)).up7 _ (by decide)
      refine xr_iinc dX9_beginFall_88 rfl ii_1 (Nat.le_of_ble_eq_true rfl) ?_
      show xT _ _ _ 91 [_, _, _] _ _ _
      refine xr_goto 35 dX9_beginFall_91 (by decide) ?_
      rw [k_1, nI_add]
      refine IH I6 (f46.hp H4 (by decide) (by decide)) ⟨?_, ?_⟩ ?_ ?_ (fun k hk => ?_) (((x2.tr (x3.mono (by simp))).tr (mwx.of (f4.1 83 (by decide) (by decide)) (f4.1 84 (by decide) (by decide)))).tr (mwx.of (f46.1 83 (by decide) (by decide)) (f46.1 84 (by decide) (by decide)))) (((f2.tr (f3.mono (by simp) (by simp))).tr (f4.mono (by simp) (by simp))).tr (f46.mono (by simp) (by simp)))
      · rw [f46.2 11 (by decide), f4.2 11 (by decide), f3.2 11 (by decide), e2.2.1]; exact tk1.1
      · rw [f46.1 86 (by decide) (by decide), f4.1 86 (by decide) (by decide), f3.1 86 (by decide) (by decide), e2.1]; exact tk1.2
      · rw [f46.2 22 (by decide), f4.2 22 (by decide), f3.2 22 (by decide), e2.2.1]; exact z22
      · rw [← hI6, up_same, upd_same]
      · have e104 : I6 104 = upd (I4 104) (t + 1) (nI (t + 1)) := by rw [← hI6, va_up_ne _ _ (by decide), ← hI5, up_same]; rfl
        rw [e104]
        by_cases e : k = t + 1
        · rw [e, upd_same]
        · rw [upd_ne _ _ e, f4.1 104 (by decide) (by decide), f3.1 104 (by decide) (by decide), e2.2.2.2.2]
          exact a104 k (by omega)
  refine x_ent (by decide) (Nat.le_of_ble_eq_true rfl) rfl ?_
  show xT _ _ _ 0 [_, _, _] _ _ _
  refine xr_aload0 dX9_beginFall_0 rfl ?_
  refine xr_cVv [] dX9_beginFall_1 (xcv_of cf_X9_findTokens ml_9_130 (by decide)) rfl lay_77 rfl rfl rfl (Nat.le_of_ble_eq_true rfl) (c9_findTokens hMa) (fun I1 J1 hc => ?_)
  obtain ⟨tk1, f1, rfl⟩ := hc
  refine xr_aload0 dX9_beginFall_4 rfl ?_
  refine xr_cVv [] dX9_beginFall_5 (xcv_of cf_X9_beginHeap ml_9_200 (by decide)) rfl lay_77 rfl rfl rfl (Nat.le_of_ble_eq_true rfl) (c9_beginHeap) (fun I2 J2 hc => ?_)
  obtain ⟨H2, z2, f2, rfl⟩ := hc
  refine xr_aload0 dX9_beginFall_8 rfl ?_
  refine xr_getR dX9_beginFall_9 fk_9_32 lay_77 rfl ?_
  refine xr_bip bi_8 dX9_beginFall_12 ?_
  refine xr_ic0 dX9_beginFall_14 ?_
  refine xr_iast 8 dX9_beginFall_15 lay_84 rfl (by decide) (by decide) ?_
  generalize hI3 : va_up I2 84 (upd (I2 84) 8 0) = I3
  have f3 : mfx [83, 84, 85, 86, 89, 90, 91, 92, 93, 94, 95, 104] [11, 13, 14, 21, 22, 41] I I3 := by rw [← hI3]; exact ((f1.mono (by simp) (by simp)).tr (f2.mono (by simp) (by simp))).up _ (by decide) (by decide)
  have x3 : mwx [8, 9, 10] I I3 := fun v hv hvw => by
    have hvw' : v ≠ 8 := fun q => hvw (by rw [q]; simp)
    rw [← hI3, up_same, upd_ne _ _ hvw', va_up_ne _ _ (by decide), f2.1 84 (by decide) (by decide), f2.1 83 (by decide) (by decide), f1.1 84 (by decide) (by decide), f1.1 83 (by decide) (by decide)]
    exact ⟨rfl, fun _ _ => rfl⟩
  have d3 : mWd I3 8 [] := ⟨by rw [← hI3, up_same, upd_same]; rfl, fun i hi => absurd hi (Nat.not_lt_zero _)⟩
  have H3 : mHp I3 [] := by rw [← hI3]; exact H2.cg (by rw [va_up_ne _ _ (by decide)]) (by rw [va_up_ne _ _ (by decide)]) (by rw [va_up_ne _ _ (by decide)])
  refine xr_aload0 dX9_beginFall_16 rfl ?_
  refine xr_getR dX9_beginFall_17 fk_9_94 lay_77 rfl ?_
  refine xr_ic0 dX9_beginFall_20 ?_
  refine xr_aload0 dX9_beginFall_21 rfl ?_
  refine xr_bip bi_8 dX9_beginFall_22 ?_
  refine xr_cVi [_] dX9_beginFall_24 (xcv_of cf_X9_toHeap ml_9_191 (by decide)) rfl lay_77 rfl rfl rfl (Nat.le_of_ble_eq_true rfl) (c9_toHeap H3 (fun a h => by cases h) (by decide) d3 (by simp) (fun q hq => by cases hq)) (fun v I4 J4 hc => ?_)
  obtain ⟨⟨o, hs4, rfl, to4, H4⟩, f4, rfl⟩ := hc
  have hs4e : hs4 = fallFt M 0 ∧ o = some 0 := by
    rcases to4 with ⟨j, -, ⟨h1, -⟩, -⟩ | ⟨-, -, h1, h2⟩ | ⟨-, h1, -, -⟩
    · simp at h1
    · exact ⟨h2, h1⟩
    · simp at h1
  obtain ⟨rfl, rfl⟩ := hs4e
  refine xr_iast 0 dX9_beginFall_27 lay_104 rfl (by decide) (by decide) ?_
  generalize hI5 : va_up I4 104 (upd (I4 104) 0 (oI (some 0))) = I5
  refine xr_aload0 dX9_beginFall_28 rfl ?_
  refine xr_ic1 dX9_beginFall_29 ?_
  refine xr_putI dX9_beginFall_30 fp_9_299 lay_77 rfl ?_
  rw [show (1 : Int32) = nI (0 + 1) from rfl]
  generalize hI6 : va_up I5 77 (upd (I5 77) 41 (nI (0 + 1))) = I6
  have f46 : mfx [104] [41] I4 I6 := by rw [← hI6, ← hI5]; exact (mfx.rf.up _ (by decide) (by decide)).up7 _ (by decide)
  refine xr_ic0 dX9_beginFall_33 ?_
  refine xr_istore1 dX9_beginFall_34 (Nat.le_of_ble_eq_true rfl) ?_
  show xT _ _ _ 35 [_, _, _] _ _ _
  refine L 0 (Nat.zero_le _) I6 (f46.hp H4 (by decide) (by decide)) ⟨?_, ?_⟩ ?_ ?_ (fun k hk => ?_) ((x3.tr (mwx.of (f4.1 83 (by decide) (by decide)) (f4.1 84 (by decide) (by decide)))).tr (mwx.of (f46.1 83 (by decide) (by decide)) (f46.1 84 (by decide) (by decide)))) ((f3.tr (f4.mono (by simp) (by simp))).tr (f46.mono (by simp) (by simp)))
  · rw [f46.2 11 (by decide), f4.2 11 (by decide), ← hI3, va_up_ne _ _ (by decide), f2.2 11 (by decide)]; exact tk1.1
  · rw [f46.1 86 (by decide) (by decide), f4.1 86 (by decide) (by decide), ← hI3, va_up_ne _ _ (by decide), f2.1 86 (by decide) (by decide)]; exact tk1.2
  · rw [f46.2 22 (by decide), f4.2 22 (by decide), ← hI3, va_up_ne _ _ (by decide)]; exact z2
  · rw [← hI6, up_same, upd_same]
  · have : k = 0 := by omega
    subst this
    rw [← hI6, va_up_ne _ _ (by decide), ← hI5, up_same, upd_same]; rfl
end M31
