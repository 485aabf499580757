section M30
variable {G : xG} {I : xI} {J : xJ}
def mFl (I : xI) (M : xMac) (F hs : List (List Nat)) : Prop := mHp I hs ∧ hGood M hs ∧ hs.length ≤ 200 ∧ mHd I M hs hs.length ∧ I 77 22 = nI hs.length ∧ (∃ l, 14 ≤ l ∧ ncl M hs (l + 1) ≤ ncl M hs l ∧ mCl I M hs (l + 1)) ∧ I 77 41 = nI F.length ∧ F.length ≤ 20 ∧ ∀ k (h : k < F.length), ∃ j, I 104 k = nI j ∧ hs[j]? = some F[k]
theorem addU_len (M : xMac) (F : List (List Nat)) (q : List Nat) : (addU M F q).length = if F.any (fun f => wA M f q) then F.length else F.length + 1 := by
  unfold addU
  split <;> simp
theorem c9_falls {M : xMac} {F hs Sn : List (List Nat)} {q : List Nat} (hMa : mMach I M) (hwh : mWhole M) (hF : mFl I M F hs) (hHp : isHp M Sn hs) (hW : mWd I 8 q) (hq : wGood M q) : xCon G M_X9_falls [.ref (G.1 77), .int (nI 8)] I J (xpi fun v I' J' => (∃ ok, v = b2 ok ∧ (ok = true → ∃ hs', mFl I' M (addU M F q) hs' ∧ isHp M (Sn ++ [q]) hs') ∧ (ok = false → fallNo M (addU M F q) (Sn ++ [q]))) ∧ mwx [9, 10] I I' ∧ mfx [83, 84, 89, 90, 91, 92, 93, 94, 95, 104] [13, 14, 21, 22, 41] I I' ∧ J = J') := by
  obtain ⟨H0, g0, hl0, md0, z0, ⟨l0, hl14, hst0, cl0⟩, fm0, hF20, fa0⟩ := hF
  have hM := hMa.1
  have hN8 := hM.2.2.1
  have hK4 := hM.2.1
  -- the look over the heap
  have tail : ∀ I2 hs2 h (z3 z4 : Option Value), mFl I2 M F hs2 → isHp M (Sn ++ [q]) hs2 → hs2[h]? = some q → mwx [9, 10] I I2 → mfx [83, 84, 89, 90, 91, 92, 93, 94, 95, 104] [13, 14, 21, 22, 41] I I2 → xT G M_X9_falls (xMQ G (xpi fun v I' J' => (∃ ok, v = b2 ok ∧ (ok = true → ∃ hs', mFl I' M (addU M F q) hs' ∧ isHp M (Sn ++ [q]) hs') ∧ (ok = false → fallNo M (addU M F q) (Sn ++ [q]))) ∧ mwx [9, 10] I I' ∧ mfx [83, 84, 89, 90, 91, 92, 93, 94, 95, 104] [13, 14, 21, 22, 41] I I' ∧ J = J')) 31 [some (.ref (G.1 77)), some (.int (nI 8)), some (.int (nI h)), z3, z4] [] I2 J := by
    intro I2 hs2 h z3 z4 hFl hHp2 hat x2 f2
    have hFl' := hFl
    obtain ⟨H2, g2, hl2, md2, z2, ⟨l, hl14', hst, ⟨c, c1, c2⟩⟩, fm2, -, fa2⟩ := hFl
    have hh := (List.getElem?_eq_some_iff.mp hat).1
    have hcl := cnt_le (wFst M hs2 (l + 1)) hs2.length
    refine xr_ic0 dX9_falls_31 ?_
    refine xr_istore3 dX9_falls_32 (Nat.le_of_ble_eq_true rfl) ?_
    show xT _ _ _ 33 [_, _, _, _, _] _ _ _
    refine xr_ic0 dX9_falls_33 ?_
    refine xr_istore dX9_falls_34 (Nat.le_of_ble_eq_true rfl) ?_
    show xT _ _ _ 36 [_, _, _, _, _] _ _ _
    have L : ∀ k, k ≤ F.length → xT G M_X9_falls (xMQ G (xpi fun v I' J' => (∃ ok, v = b2 ok ∧ (ok = true → ∃ hs', mFl I' M (addU M F q) hs' ∧ isHp M (Sn ++ [q]) hs') ∧ (ok = false → fallNo M (addU M F q) (Sn ++ [q]))) ∧ mwx [9, 10] I I' ∧ mfx [83, 84, 89, 90, 91, 92, 93, 94, 95, 104] [13, 14, 21, 22, 41] I I' ∧ J = J')) 36 [some (.ref (G.1 77)), some (.int (nI 8)), some (.int (nI h)), some (.int (b2 ((F.take k).any (fun f => wA M f q)))), some (.int (nI k))] [] I2 J := by
      refine x_for (fun k hk IH => ?_)
      refine xr_iload dX9_falls_36 rfl ?_
      refine xr_aload0 dX9_falls_38 rfl ?_
      refine xr_getIv dX9_falls_39 fk_9_299 lay_77 rfl fm2 ?_
      refine xr_icmp_ge 82 dX9_falls_42 (by decide) (fun hc => ?_) (fun hc => ?_)
      · have hkk : k = F.length := by have := nle hc; omega
        subst hkk
        rw [List.take_length]
        refine xr_iload3 dX9_falls_82 rfl ?_
        refine xr_if_ne 117 dX9_falls_83 (by decide) (fun his => ?_) (fun his => ?_)
        · have his : F.any (fun f => wA M f q) = true := by
            cases hq' : F.any (fun f => wA M f q) with
            | true => rfl
            | false => rw [hq'] at his; exact absurd rfl his
          have ea : addU M F q = F := by unfold addU; rw [if_pos his]
          refine xr_ic1 dX9_falls_117 ?_
          refine xr_zret dX9_falls_118 rfl rfl (by simp) ⟨⟨true, rfl, fun _ => ⟨hs2, by rw [ea]; exact hFl', hHp2⟩, fun q => by cases q⟩, x2, f2, rfl⟩
        · have his : F.any (fun f => wA M f q) = false := by
            cases hq' : F.any (fun f => wA M f q) with
            | false => rfl
            | true => rw [hq'] at his; exact absurd his (by decide)
          have ea : addU M F q = F ++ [q] := by unfold addU; rw [if_neg (by rw [his]; decide)]
          refine xr_aload0 dX9_falls_86 rfl ?_
          refine xr_getIv dX9_falls_87 fk_9_299 lay_77 rfl fm2 ?_
          refine xr_bip bi_20 dX9_falls_90 ?_
          refine xr_icmp_ne 97 dX9_falls_92 (by decide) (fun h20 => ?_) (fun h20 => ?_)
          rotate_left
          · have : F.length = 20 := (nI_eq (a := F.length) (b := 20) (by omega) (by decide)).mp h20
            refine xr_ic0 dX9_falls_95 ?_
            refine xr_zret dX9_falls_96 rfl rfl (by simp) ⟨⟨false, rfl, (fun q => by cases q), fun _ => Or.inr (by rw [ea, List.length_append]; simp; omega)⟩, x2, f2, rfl⟩
          have hl20 : F.length < 20 := by
            have : F.length ≠ 20 := fun e => h20 (by rw [e]; rfl)
            omega
          refine xr_aload0 dX9_falls_97 rfl ?_
          refine xr_getR dX9_falls_98 fk_9_94 lay_77 rfl ?_
          refine xr_aload0 dX9_falls_101 rfl ?_
          refine xr_getIv dX9_falls_102 fk_9_299 lay_77 rfl fm2 ?_
          refine xr_iload2 dX9_falls_105 rfl ?_
          generalize hI3 : va_up I2 104 (upd (I2 104) F.length (nI h)) = I3
          refine xr_iast F.length dX9_falls_106 lay_104 rfl (by omega) (by decide) ?_
          rw [hI3]
          have fm3 : I3 77 41 = nI F.length := by rw [← hI3, va_up_ne _ _ (by decide)]; exact fm2
          refine xr_aload0 dX9_falls_107 rfl ?_
          refine xr_dup dX9_falls_108 rfl ?_
          refine xr_getIv dX9_falls_109 fk_9_299 lay_77 rfl fm3 ?_
          refine xr_ic1 dX9_falls_112 ?_
          refine xr_iadd dX9_falls_113 ?_
          refine xr_putI dX9_falls_114 fp_9_299 lay_77 rfl ?_
          rw [k_1, nI_add]
          generalize hI4 : va_up I3 77 (upd (I3 77) 41 (nI (F.length + 1))) = I4
          refine xr_ic1 dX9_falls_117 ?_
          have f4 : mfx [83, 84, 89, 90, 91, 92, 93, 94, 95, 104] [13, 14, 21, 22, 41] I I4 := by rw [← hI4, ← hI3]; exact (f2.up _ (by decide) (by decide)).up7 _ (by decide)
          have f24 : mfx [104] [41] I2 I4 := by rw [← hI4, ← hI3]; exact (mfx.rf.up _ (by decide) (by decide)).up7 _ (by decide)
          refine xr_zret dX9_falls_118 rfl rfl (by simp) ⟨⟨true, rfl, fun _ => ⟨hs2, ?_, hHp2⟩, fun q => by cases q⟩, x2.tr (mwx.of (f24.1 83 (by decide) (by decide)) (f24.1 84 (by decide) (by decide))), f4, rfl⟩
          rw [ea]
          refine ⟨f24.hp H2 (by decide) (by decide), g2, hl2, fun k hk hk2 y hy => ?_, by rw [f24.2 22 (by decide)]; exact z2, ⟨l, hl14', hst, ⟨c, by rw [f24.1 93 (by decide) (by decide)]; exact ⟨c1, c2⟩⟩⟩, ?_, ?_, fun k hk => ?_⟩
          · rw [f24.1 91 (by decide) (by decide), f24.1 92 (by decide) (by decide)]; exact md2 k hk hk2 y hy
          · rw [← hI4, up_same, upd_same, List.length_append]; rfl
          · rw [List.length_append]; simp; omega
          · have e104 : I4 104 = upd (I2 104) F.length (nI h) := by rw [← hI4, va_up_ne _ _ (by decide), ← hI3, up_same]
            rw [e104]
            by_cases e : k = F.length
            · subst e
              exact ⟨h, upd_same _ _ _, by simpa using hat⟩
            · rw [List.length_append] at hk
              have hk' : k < F.length := by simp at hk; omega
              obtain ⟨j, j1, j2⟩ := fa2 k hk'
              exact ⟨j, by rw [upd_ne _ _ e]; exact j1, by rw [j2, List.getElem_append_left hk']⟩
      · have hkl := nlt hc
        have IH := IH hkl
        have et : (F.take (k + 1)).any (fun f => wA M f q) = ((F.take k).any (fun f => wA M f q) || wA M F[k] q) := by
          rw [List.take_succ_eq_append_getElem hkl, List.any_append]
          simp
        rw [et] at IH
        have fin : ∀ b : Bool, b = ((F.take k).any (fun f => wA M f q) || wA M F[k] q) → xT G M_X9_falls (xMQ G (xpi fun v I' J' => (∃ ok, v = b2 ok ∧ (ok = true → ∃ hs', mFl I' M (addU M F q) hs' ∧ isHp M (Sn ++ [q]) hs') ∧ (ok = false → fallNo M (addU M F q) (Sn ++ [q]))) ∧ mwx [9, 10] I I' ∧ mfx [83, 84, 89, 90, 91, 92, 93, 94, 95, 104] [13, 14, 21, 22, 41] I I' ∧ J = J')) 75 [some (.ref (G.1 77)), some (.int (nI 8)), some (.int (nI h)), some (.int (b2 ((F.take k).any (fun f => wA M f q)))), some (.int (nI k))] [.int (b2 b)] I2 J := by
          intro b hb
          refine xr_istore3 dX9_falls_75 (Nat.le_of_ble_eq_true rfl) ?_
          show xT _ _ _ 76 [_, _, _, _, _] _ _ _
          refine xr_iinc dX9_falls_76 rfl ii_1 (Nat.le_of_ble_eq_true rfl) ?_
          show xT _ _ _ 79 [_, _, _, _, _] _ _ _
          refine xr_goto 36 dX9_falls_79 (by decide) ?_
          rw [k_1, nI_add, hb]
          exact IH
        refine xr_iload3 dX9_falls_45 rfl ?_
        refine xr_if_ne 70 dX9_falls_46 (by decide) (fun his => ?_) (fun his => ?_)
        · have his : (F.take k).any (fun f => wA M f q) = true := by
            cases hq' : (F.take k).any (fun f => wA M f q) with
            | true => rfl
            | false => rw [hq'] at his; exact absurd rfl his
          refine xr_ic1 dX9_falls_70 ?_
          refine xr_goto 75 dX9_falls_71 (by decide) ?_
          exact fin true (by rw [his]; rfl)
        · have his : (F.take k).any (fun f => wA M f q) = false := by
            cases hq' : (F.take k).any (fun f => wA M f q) with
            | false => rfl
            | true => rw [hq'] at his; exact absurd his (by decide)
          obtain ⟨j, j1, j2⟩ := fa2 k hkl
          have hj := (List.getElem?_eq_some_iff.mp j2).1
          have q1 := c1 j hj
          have q2 := c1 h hh
          have hiff : c j = c h ↔ wA M F[k] q = true := by
            have h1 := c2 j h hj hh
            rw [getD_at j2, getD_at hat] at h1
            rw [h1, stb_al (hd_clo md2) hst (List.mem_of_getElem? j2) (List.mem_of_getElem? hat), wA_iff]
          refine xr_aload0 dX9_falls_49 rfl ?_
          refine xr_getR dX9_falls_50 fk_9_60 lay_77 rfl ?_
          refine xr_aload0 dX9_falls_53 rfl ?_
          refine xr_getR dX9_falls_54 fk_9_94 lay_77 rfl ?_
          refine xr_iload dX9_falls_57 rfl ?_
          refine xr_ialdv _ dX9_falls_59 lay_104 rfl (by omega) (by decide) j1 ?_
          refine xr_ialdv _ dX9_falls_60 lay_93 rfl (by omega) (by decide) q1.1 ?_
          refine xr_aload0 dX9_falls_61 rfl ?_
          show xT _ _ _ 62 _ _ _ _
          refine xr_getR dX9_falls_62 fk_9_60 lay_77 rfl ?_
          refine xr_iload2 dX9_falls_65 rfl ?_
          refine xr_ialdv _ dX9_falls_66 lay_93 rfl (by omega) (by decide) q2.1 ?_
          refine xr_icmp_ne 74 dX9_falls_67 (by decide) (fun hne => ?_) (fun hne => ?_)
          · have : wA M F[k] q = false := by
              cases hq' : wA M F[k] q with
              | false => rfl
              | true => exact absurd (by rw [hiff.mpr hq']) hne
            refine xr_ic0 dX9_falls_74 ?_
            exact fin false (by rw [his, this]; rfl)
          · have : wA M F[k] q = true := hiff.mp ((nI_eq (by omega) (by omega)).mp hne)
            refine xr_ic1 dX9_falls_70 ?_
            refine xr_goto 75 dX9_falls_71 (by decide) ?_
            exact fin true (by rw [this, Bool.or_true])
    exact L 0 (Nat.zero_le _)
  refine x_ent (by decide) (Nat.le_of_ble_eq_true rfl) rfl ?_
  show xT _ _ _ 0 [_, _, _, _, _] _ _ _
  refine xr_aload0 dX9_falls_0 rfl ?_
  refine xr_iload1 dX9_falls_1 rfl ?_
  refine xr_cVi [_] dX9_falls_2 (xcv_of cf_X9_toHeap ml_9_191 (by decide)) rfl lay_77 rfl rfl rfl (Nat.le_of_ble_eq_true rfl) (c9_toHeap H0 (g0.lt hN8) (by decide) hW hq.1 (fun m hm => hq.2.2.lt hN8 hm)) (fun v I1 J1 hc => ?_)
  obtain ⟨⟨o, hs1, rfl, to1, H1⟩, f1, rfl⟩ := hc
  have x1 : mwx [9, 10] I I1 := mwx.of (f1.1 83 (by decide) (by decide)) (f1.1 84 (by decide) (by decide))
  have z1 : I1 77 22 = nI hs.length := by rw [f1.2 22 (by decide)]; exact z0
  have md1 : mHd I1 M hs hs.length := fun k hk hk2 y hy => by rw [f1.1 91 (by decide) (by decide), f1.1 92 (by decide) (by decide)]; exact md0 k hk hk2 y hy
  refine xr_istore2 dX9_falls_5 (Nat.le_of_ble_eq_true rfl) ?_
  show xT _ _ _ 6 [_, _, _, _, _] _ _ _
  refine xr_aload0 dX9_falls_6 rfl ?_
  refine xr_getIv dX9_falls_7 fk_9_185 lay_77 rfl z1 ?_
  refine xr_aload0 dX9_falls_10 rfl ?_
  refine xr_getIv dX9_falls_11 fk_9_178 lay_77 rfl H1.1 ?_
  rcases to1 with ⟨j, rfl, ⟨hj, hjq⟩, rfl⟩ | ⟨hnew, -, rfl, rfl⟩ | ⟨-, hbig, -, -⟩
  rotate_left
  · rw [List.length_append] at *
    refine xr_icmp_ge 31 dX9_falls_14 (by decide) (fun hc => ?_) (fun hc => ?_)
    · have := nle hc (by omega) (by simp; omega)
      simp at this; omega
    refine xr_aload0 dX9_falls_17 rfl ?_
    have g1 : hGood M (hs ++ [q]) := hTo.good (o := some hs.length) (Or.inr (Or.inl ⟨hnew, hl0, rfl, rfl⟩)) g0 hq
    have mdd : mHd I1 M (hs ++ [q]) hs.length := fun k hk hk2 y hy => by
      obtain ⟨a1, j, a2, a3⟩ := md1 k hk2 hk2 y hy
      rw [List.getElem_append_left hk2]
      exact ⟨a1, j, a2, by rw [List.getElem?_append_left (List.getElem?_eq_some_iff.mp a3).1]; exact a3⟩
    refine xr_cVi [] dX9_falls_18 (xcv_of cf_X9_grow ml_9_209 (by decide)) rfl lay_77 rfl rfl rfl (Nat.le_of_ble_eq_true rfl) (c9_grow (f1.mach hMa (by decide) (by decide)) hwh H1 g1 (by simp) z1 mdd) (fun v I2 J2 hc2 => ?_)
    obtain ⟨⟨hs2, rfl, H2, g2, e2, c2⟩, x2, f2, rfl⟩ := hc2
    have f12 : mfx [83, 84, 89, 90, 91, 92, 93, 94, 95, 104] [13, 14, 21, 22, 41] I I2 := (f1.mono (by simp) (by simp)).tr (f2.mono (by simp) (by simp))
    have hreach : ∀ w ∈ hs2, wReach M (Sn ++ [q]) w := e2.2 _ (fun a ha => by
      rcases List.mem_append.mp ha with h | h
      · exact ((hHp.2 a).mp h).mono (fun b hb => List.mem_append_left _ hb)
      · rw [List.mem_singleton.mp h]; exact wReach.self (List.mem_append_right _ (List.mem_singleton.mpr rfl))) (fun a x ha hx => ha.part hx)
    refine xr_if_ne 26 dX9_falls_21 (by decide) (fun hsp => ?_) (fun hsp => ?_)
    rotate_left
    · have hsp := b2d hsp
      refine xr_ic0 dX9_falls_24 ?_
      refine xr_zret dX9_falls_25 rfl rfl (by simp) ⟨⟨false, rfl, (fun q => by cases q), fun _ => Or.inl ⟨hs2, g2.1, by omega, hreach⟩⟩, x1.tr x2, f12, rfl⟩
    have hsp := b2d' hsp
    obtain ⟨md2, z2⟩ := c2 hsp
    have hclo := hd_clo md2
    have hat2 : hs2[hs.length]? = some q := e2.at (by simp)
    have hHp2 : isHp M (Sn ++ [q]) hs2 := ⟨g2.1, fun w => ⟨hreach w, fun hw => by
      obtain ⟨a, ha, r, hr, rfl⟩ := hw
      have ham : a ∈ hs2 := by
        rcases List.mem_append.mp ha with h | h
        · obtain ⟨e, rfl⟩ := e2.1
          exact List.mem_append_left _ (List.mem_append_left _ ((hHp.2 a).mpr (wReach.self h)))
        · rw [List.mem_singleton.mp h]; exact List.mem_of_getElem? hat2
      exact hclo.reach (A := [a]) (fun b hb => by rw [List.mem_singleton.mp hb]; exact ham) ⟨a, List.mem_singleton.mpr rfl, r, hr, rfl⟩⟩⟩
    refine xr_aload0 dX9_falls_26 rfl ?_
    refine xr_cVi [] dX9_falls_27 (xcv_of cf_X9_partAll ml_9_212 (by decide)) rfl lay_77 rfl rfl rfl (Nat.le_of_ble_eq_true rfl) (c9_partAll (f12.mach hMa (by decide) (by decide)) H2.1 hsp md2 (fun a ha x hx => by have := wout_lt hM hwh (g2.2 a ha).2.2 hx; omega)) (fun v I3 J3 hc3 => ?_)
    obtain ⟨⟨l, hl14', rfl, hst, cl3⟩, -, f3, rfl⟩ := hc3
    have f13 : mfx [83, 84, 89, 90, 91, 92, 93, 94, 95, 104] [13, 14, 21, 22, 41] I I3 := f12.tr (f3.mono (by simp) (by simp))
    refine xr_istore3 dX9_falls_30 (Nat.le_of_ble_eq_true rfl) ?_
    show xT _ _ _ 31 [_, _, _, _, _] _ _ _
    refine tail I3 hs2 hs.length _ _ ⟨f3.hp H2 (by decide) (by decide), g2, hsp, fun k hk hk2 y hy => ?_, by rw [f3.2 22 (by decide)]; exact z2, ⟨l, hl14', hst, cl3⟩, ?_, hF20, fun k hk => ?_⟩ hHp2 hat2 ((x1.tr x2).tr (mwx.of (f3.1 83 (by decide) (by decide)) (f3.1 84 (by decide) (by decide)))) f13
    · rw [f3.1 91 (by decide) (by decide), f3.1 92 (by decide) (by decide)]; exact md2 k hk hk2 y hy
    · rw [f3.2 41 (by decide), f2.2 41 (by decide), f1.2 41 (by decide)]; exact fm0
    · obtain ⟨j, j1, j2⟩ := fa0 k hk
      refine ⟨j, ?_, e2.at (by rw [List.getElem?_append_left (List.getElem?_eq_some_iff.mp j2).1]; exact j2)⟩
      rw [f3.1 104 (by decide) (by decide), f2.1 104 (by decide) (by decide), f1.1 104 (by decide) (by decide)]; exact j1
  · omega
  · skip
    refine xr_icmp_ge 31 dX9_falls_14 (by decide) (fun hc => ?_) (fun hc => ?_)
    rotate_left
    · exact absurd ((nI_leI (a := hs1.length) (b := hs1.length) (by omega) (by omega)).mpr (Nat.le_refl _)) hc
    have hat : hs1[j]? = some q := List.getElem?_eq_some_iff.mpr ⟨hj, hjq⟩
    refine tail I1 hs1 j _ _ ⟨H1, g0, hl0, md1, z1, ⟨l0, hl14, hst0, ?_⟩, by rw [f1.2 41 (by decide)]; exact fm0, hF20, fun k hk => ?_⟩ ⟨hHp.1, fun w => ?_⟩ hat x1 (f1.mono (by simp) (by simp))
    · obtain ⟨c, hc⟩ := cl0
      exact ⟨c, by rw [f1.1 93 (by decide) (by decide)]; exact hc⟩
    · rw [f1.1 104 (by decide) (by decide)]; exact fa0 k hk
    · rw [hHp.2]
      constructor
      · exact fun h => h.mono (fun b hb => List.mem_append_left _ hb)
      · rintro ⟨a, ha, r, hr, rfl⟩
        have ham : a ∈ hs1 := by
          rcases List.mem_append.mp ha with h | h
          · exact (hHp.2 a).mpr (wReach.self h)
          · rw [List.mem_singleton.mp h]; exact List.mem_of_getElem? hat
        exact (hHp.2 _).mp ((hd_clo md0).reach (A := [a]) (fun b hb => by rw [List.mem_singleton.mp hb]; exact ham) ⟨a, List.mem_singleton.mpr rfl, r, hr, rfl⟩)
end M30
