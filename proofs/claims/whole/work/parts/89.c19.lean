section C19
variable {G : xG} {I : xI} {J : xJ}
/-- the pool's kinds: ALIKE ones by number, and the first rounds -/
def pKd (I : xI) (M : xMac) (p : Nat) (hs : List (List Nat)) : Prop := ∃ l rc, 1 ≤ l ∧ ncl M hs (l + 1) ≤ ncl M hs l ∧ (∃ c, isCls M hs (l + 1) (I (p + 11)) c hs.length) ∧ I p 11 = nI (ncl M hs (l + 1)) ∧ I p 12 = nI rc ∧ 1 ≤ rc ∧ rc ≤ 14 ∧ (∀ r, r < rc → ∃ c, isCls M hs (r + 1) (fun h => I (p + 13) (200 * r + h)) c hs.length) ∧ (rc < 14 → ncl M hs (rc + 1) ≤ ncl M hs rc)
theorem pKd.cg {I I' : xI} {M : xMac} {p : Nat} {hs : List (List Nat)} (h : pKd I M p hs) (e11 : I' (p + 11) = I (p + 11)) (e13 : I' (p + 13) = I (p + 13)) (e1 : I' p 11 = I p 11) (e2 : I' p 12 = I p 12) : pKd I' M p hs := by
  unfold pKd at h ⊢
  rw [e11, e13, e1, e2]
  exact h
theorem c4_classify {M : xMac} (hM : mOk M) (hwh : mWhole M) {p : Nat} (hp : isPl p) {hs : List (List Nat)} (hw : pWd I J p hs) (hg : ∀ a ∈ hs, wGood M a) (hne : hs ≠ []) (h8 : I p 8 = nI (mK M)) (hf : pFl I M p hs) (hsg : ∃ ks, kT I J (p + 5) 200 512 ks) {cd : Nat} (h10 : I p 10 = nI cd) (hcd : cd ≤ 200) (hk : cd = hs.length → pKd I M p hs) : xCon G M_X4_classify [.ref (G.1 p)] I J (xpv fun I' J' => pKd I' M p hs ∧ I' p 10 = nI hs.length ∧ (∃ ks, kT I' J' (p + 5) 200 512 ks) ∧ cfx [p, p + 5, p + 5 + 1, p + 5 + 2, p + 5 + 3, p + 11, p + 12, p + 13] I J I' J' ∧ (∀ j, j ≠ 10 → j ≠ 11 → j ≠ 12 → I' p j = I p j)) := by
  have hK4 := hM.2.1
  obtain ⟨hl, hcnt⟩ := hw.len
  have hpos : 0 < hs.length := List.length_pos_iff.mpr hne
  have hok : ∀ h, h < hs.length → wOk M (hs.getD h []) := fun h hh => by rw [getD_lt hh]; exact (hg _ (List.getElem_mem hh)).2.2
  have flo : ∀ {I1 J1}, cfx [p, p + 5, p + 5 + 1, p + 5 + 2, p + 5 + 3, p + 11, p + 12, p + 13] I J I1 J1 → pFl I1 M p hs := fun f1 k hk => by rw [(f1 (p + 10) (by simp only [List.mem_cons, List.not_mem_nil, or_false]; omega)).1, (f1 (p + 9) (by simp only [List.mem_cons, List.not_mem_nil, or_false]; omega)).1]; exact hf k hk
  have hn1 : 1 ≤ ncl M hs 1 := cnt_pos (g := 0) hpos (wFst_iff.mpr (fun g hg => absurd hg (Nat.not_lt_zero _)))
  have L2 : ∀ r, r ≤ 200 → ∀ I1 J1 (z2 : Option Value), 1 ≤ r → r ≤ ncl M hs r → cfx [p, p + 5, p + 5 + 1, p + 5 + 2, p + 5 + 3, p + 11, p + 12, p + 13] I J I1 J1 → (∀ j, j ≠ 10 → j ≠ 11 → j ≠ 12 → I1 p j = I p j) → I1 p 10 = nI hs.length → (∃ ks, kT I1 J1 (p + 5) 200 512 ks) → (∃ c, isCls M hs r (I1 (p + 11)) c hs.length) → I1 p 11 = nI (ncl M hs r) → I1 p 12 = nI (min r 14) → (∀ q, q < min r 14 → ∃ c, isCls M hs (q + 1) (fun h => I1 (p + 13) (200 * q + h)) c hs.length) → xT G M_X4_classify (xMQ G (xpv fun I' J' => pKd I' M p hs ∧ I' p 10 = nI hs.length ∧ (∃ ks, kT I' J' (p + 5) 200 512 ks) ∧ cfx [p, p + 5, p + 5 + 1, p + 5 + 2, p + 5 + 3, p + 11, p + 12, p + 13] I J I' J' ∧ (∀ j, j ≠ 10 → j ≠ 11 → j ≠ 12 → I' p j = I p j))) 92 [some (.ref (G.1 p)), some (.int (nI r)), z2] [] I1 J1 := by
    refine x_for (fun r hr IH I1 J1 z2 hr1 hrn f1 o1 k10 sg1 cl1 k11 k12 rd1 => ?_)
    have hnl := ncl_le M hs r
    obtain ⟨c, hc⟩ := cl1
    refine xr_iload1 dX4_classify_92 rfl ?_
    refine xr_sip si_200 dX4_classify_93 ?_
    refine xr_icmp_gt 129 dX4_classify_96 (by decide) (fun hgt => ?_) (fun hgt => ?_)
    · have := nltl (a := 200) hgt; omega
    refine xr_aload0 dX4_classify_99 rfl ?_
    refine xr_getIv dX4_classify_100 fk_4_56 hp.1 rfl k11 ?_
    refine xr_istore2 dX4_classify_103 (Nat.le_of_ble_eq_true rfl) ?_
    show xT _ _ _ 104 [_, _, _] _ _ _
    refine xr_aload0 dX4_classify_104 rfl ?_
    refine xr_cVv [] dX4_classify_105 (xcv_of cf_X4_refine ml_4_107 (by decide)) rfl hp.1 rfl rfl rfl (Nat.le_of_ble_eq_true rfl) (c4_refine hK4 hp hl k10 (by rw [o1 8 (by decide) (by decide) (by decide)]; exact h8) (flo f1) sg1 hr1 hc) (fun I2 J2 hc2 => ?_)
    obtain ⟨cl2, k11', sg2, f2, o2⟩ := hc2
    have hnl2 := ncl_le M hs (r + 1)
    have hmono := ncl_mono M hs r
    have f02 : cfx [p, p + 5, p + 5 + 1, p + 5 + 2, p + 5 + 3, p + 11, p + 12, p + 13] I J I2 J2 := f1.tr (f2.mono (by simp))
    have e13 : I2 (p + 13) = I1 (p + 13) := (f2 (p + 13) (by simp only [List.mem_cons, List.not_mem_nil, or_false]; omega)).1
    have o02 : ∀ j, j ≠ 10 → j ≠ 11 → j ≠ 12 → I2 p j = I p j := fun j h1 h2 h3 => by rw [o2 j h2]; exact o1 j h1 h2 h3
    have k10' : I2 p 10 = nI hs.length := by rw [o2 10 (by decide)]; exact k10
    have k12' : I2 p 12 = nI (min r 14) := by rw [o2 12 (by decide)]; exact k12
    refine xr_aload0 dX4_classify_108 rfl ?_
    refine xr_getIv dX4_classify_109 fk_4_56 hp.1 rfl k11' ?_
    refine xr_iload2 dX4_classify_112 rfl ?_
    refine xr_icmp_ne 119 dX4_classify_113 (by decide) (fun hneq => ?_) (fun hneq => ?_)
    rotate_left
    · have heq : ncl M hs (r + 1) = ncl M hs r := (nI_eq (by omega) (by omega)).mp hneq
      refine xr_goto 129 dX4_classify_116 (by decide) ?_
      refine xr_vret dX4_classify_129 rfl rfl ⟨⟨r, min r 14, hr1, by omega, cl2, k11', k12', by omega, by omega, fun q hq => by rw [e13]; exact rd1 q hq, fun q => ?_⟩, k10', sg2, f02, o02⟩
      have : min r 14 = r := by omega
      rw [this]; omega
    have hneq : ncl M hs (r + 1) ≠ ncl M hs r := fun q => hneq (by rw [q])
    have IH := IH (by omega)
    refine xr_aload0 dX4_classify_119 rfl ?_
    refine xr_cVv [] dX4_classify_120 (xcv_of cf_X4_keepRound ml_4_104 (by decide)) rfl hp.1 rfl rfl rfl (Nat.le_of_ble_eq_true rfl) (c4_keepRound hp k12' (by omega) k10' hl) (fun I3 J3 hc3 => ?_)
    obtain ⟨r12, rin, rout, ro, rp, rfl⟩ := hc3
    have f23 : cfx [p, p + 5, p + 5 + 1, p + 5 + 2, p + 5 + 3, p + 11, p + 12, p + 13] I2 J2 I3 J2 := fun a ha => ⟨ro a (fun q => ha (by rw [q]; simp)) (fun q => ha (by rw [q]; simp)), rfl⟩
    obtain ⟨c2, hc2⟩ := cl2
    refine xr_iinc dX4_classify_123 rfl ii_1 (Nat.le_of_ble_eq_true rfl) ?_
    show xT _ _ _ 126 [_, _, _] _ _ _
    refine xr_goto 92 dX4_classify_126 (by decide) ?_
    rw [k_1, nI_add]
    refine IH I3 J2 _ (by omega) (by omega) (f02.tr f23) (fun j h1 h2 h3 => by rw [rp j h3]; exact o02 j h1 h2 h3) (by rw [rp 10 (by decide)]; exact k10') ?_ ⟨c2, by rw [ro (p + 11) (by omega) (by omega)]; exact hc2⟩ (by rw [rp 11 (by decide)]; exact k11') (by rw [r12]; congr 1; omega) (fun q hq => ?_)
    · obtain ⟨ks, hks⟩ := sg2
      exact ⟨ks, hks.cg (fun a h1 h2 => ⟨ro a (by omega) (by omega), rfl⟩)⟩
    · rcases Nat.lt_or_ge q (min r 14) with g | g
      · obtain ⟨c3, hc3⟩ := rd1 q g
        refine ⟨c3, fun h hh => ?_, hc3.2⟩
        obtain ⟨u1, u2⟩ := hc3.1 h hh
        refine ⟨?_, u2⟩
        show I3 (p + 13) (200 * q + h) = nI (c3 h)
        rw [rout _ (by omega), e13]
        exact u1
      · have hq14 : r < 14 ∧ q = r := by omega
        have hmr : min r 14 = r := by omega
        obtain ⟨q1, q2⟩ := hq14
        subst q2
        refine ⟨c2, fun h hh => ?_, hc2.2⟩
        obtain ⟨u1, u2⟩ := hc2.1 h hh
        refine ⟨?_, u2⟩
        show I3 (p + 13) (200 * q + h) = nI (c2 h)
        have := rin (by omega) h hh
        rw [hmr] at this
        rw [this]
        exact u1
  generalize hσ : (fun h => (((nI (wrt M (hs.getD h []) (mK M))).toInt64, 0) : kK)) = σ
  have hσh : ∀ h, σ h = ((nI (wrt M (hs.getD h []) (mK M))).toInt64, 0) := fun h => by rw [← hσ]
  have hiff : ∀ g h, g < hs.length → h < hs.length → (σ g = σ h ↔ wEqn M 1 (hs.getD g []) (hs.getD h [])) := fun g h hg hh => by
    rw [hσh, hσh, ← eq1_iff hM hwh (hok g hg) (hok h hh)]
    have h1 := wrt_256 hM hwh (hok g hg)
    have h2 := wrt_256 hM hwh (hok h hh)
    constructor
    · intro e
      have e1 := congrArg Prod.fst e
      have e2 := congrArg uN e1
      rw [uN_nI (by omega), uN_nI (by omega)] at e2
      exact e2
    · intro e; rw [e]
  have L1 : ∀ i, i ≤ hs.length → ∀ I1 J1 (z2 : Option Value) ks, cfx [p, p + 5, p + 5 + 1, p + 5 + 2, p + 5 + 3, p + 11, p + 12, p + 13] I J I1 J1 → (∀ j, j ≠ 10 → j ≠ 11 → j ≠ 12 → I1 p j = I p j) → I1 p 10 = nI hs.length → kT I1 J1 (p + 5) 200 512 ks → nmb σ (I1 (p + 11)) ks i → xT G M_X4_classify (xMQ G (xpv fun I' J' => pKd I' M p hs ∧ I' p 10 = nI hs.length ∧ (∃ ks, kT I' J' (p + 5) 200 512 ks) ∧ cfx [p, p + 5, p + 5 + 1, p + 5 + 2, p + 5 + 3, p + 11, p + 12, p + 13] I J I' J' ∧ (∀ j, j ≠ 10 → j ≠ 11 → j ≠ 12 → I' p j = I p j))) 35 [some (.ref (G.1 p)), some (.int (nI i)), z2] [] I1 J1 := by
    refine x_for (fun i hi IH I1 J1 z2 ks f1 o1 k10 k1 n1 => ?_)
    refine xr_iload1 dX4_classify_35 rfl ?_
    refine xr_aload0 dX4_classify_36 rfl ?_
    refine xr_getIv dX4_classify_37 fk_4_53 hp.1 rfl k10 ?_
    refine xr_icmp_ge 70 dX4_classify_40 (by decide) (fun hcc => ?_) (fun hcc => ?_)
    · have : i = hs.length := by have := nle hcc; omega
      subst this
      obtain ⟨⟨c', hc'⟩, hlen⟩ := n1.cls k1.nodup.1 hiff
      have hsc := k1.nodup.2
      refine xr_aload0 dX4_classify_70 rfl ?_
      refine xr_aload0 dX4_classify_71 rfl ?_
      refine xr_getR dX4_classify_72 fk_4_20 hp.1 rfl ?_
      refine xr_getIv dX4_classify_75 fk_4_93 hp.2.2.1.1 rfl hsc ?_
      refine xr_putI dX4_classify_78 fp_4_56 hp.1 rfl ?_
      generalize hI2 : va_up I1 p (upd (I1 p) 11 (nI ks.length)) = I2
      refine xr_aload0 dX4_classify_81 rfl ?_
      refine xr_ic0 dX4_classify_82 ?_
      refine xr_putI dX4_classify_83 fp_4_59 hp.1 rfl ?_
      generalize hI3 : va_up I2 p (upd (I2 p) 12 0) = I3
      have e3 : ∀ a, a ≠ p → I3 a = I1 a := fun a ha => by rw [← hI3, va_up_ne _ _ ha, ← hI2, va_up_ne _ _ ha]
      have e3p : ∀ j, j ≠ 11 → j ≠ 12 → I3 p j = I1 p j := fun j h1 h2 => by rw [← hI3, up_same, upd_ne _ _ h2, ← hI2, up_same, upd_ne _ _ h1]
      have k11 : I3 p 11 = nI (ncl M hs 1) := by rw [← hI3, up_same, upd_ne _ _ (by decide), ← hI2, up_same, upd_same, hlen]
      have k12 : I3 p 12 = nI 0 := by rw [← hI3, up_same, upd_same]; rfl
      have k10' : I3 p 10 = nI hs.length := by rw [e3p 10 (by decide) (by decide)]; exact k10
      have f3 : cfx [p, p + 5, p + 5 + 1, p + 5 + 2, p + 5 + 3, p + 11, p + 12, p + 13] I J I3 J1 := by rw [← hI3, ← hI2]; exact (f1.up _ (by simp)).up _ (by simp)
      refine xr_aload0 dX4_classify_86 rfl ?_
      refine xr_cVv [] dX4_classify_87 (xcv_of cf_X4_keepRound ml_4_104 (by decide)) rfl hp.1 rfl rfl rfl (Nat.le_of_ble_eq_true rfl) (c4_keepRound hp k12 (by decide) k10' hl) (fun I4 J4 hc4 => ?_)
      obtain ⟨r12, rin, rout, ro, rp, rfl⟩ := hc4
      have f34 : cfx [p, p + 5, p + 5 + 1, p + 5 + 2, p + 5 + 3, p + 11, p + 12, p + 13] I3 J1 I4 J1 := fun a ha => ⟨ro a (fun q => ha (by rw [q]; simp)) (fun q => ha (by rw [q]; simp)), rfl⟩
      refine xr_ic1 dX4_classify_90 ?_
      refine xr_istore1 dX4_classify_91 (Nat.le_of_ble_eq_true rfl) ?_
      show xT _ _ _ 92 [_, _, _] _ _ _
      refine L2 1 (by decide) I4 J1 _ (by decide) hn1 (f3.tr f34) (fun j h1 h2 h3 => by rw [rp j h3, e3p j h2 h3]; exact o1 j h1 h2 h3) (by rw [rp 10 (by decide)]; exact k10') ⟨ks, k1.cg (fun a h1 h2 => ⟨by rw [ro a (by omega) (by omega), e3 a (by omega)], rfl⟩)⟩ ⟨c', by rw [ro (p + 11) (by omega) (by omega), e3 (p + 11) (by omega)]; exact hc'⟩ (by rw [rp 11 (by decide)]; exact k11) (by rw [r12]) (fun q hq => ?_)
      have : q = 0 := by omega
      subst this
      refine ⟨c', fun h hh => ?_, hc'.2⟩
      obtain ⟨u1, u2⟩ := hc'.1 h hh
      refine ⟨?_, u2⟩
      show I4 (p + 13) (200 * 0 + h) = nI (c' h)
      rw [rin (by decide) h hh, e3 (p + 11) (by omega)]
      exact u1
    have hil := nlt hcc
    have IH := IH hil
    have v10 := ((flo f1) i hil).1
    rw [← getD_lt hil] at v10
    have hadd := sg_add (G := G) hp.2.2.1 k1 n1 (by omega)
    rw [hσh] at hadd
    refine xr_aload0 dX4_classify_43 rfl ?_
    refine xr_getR dX4_classify_44 fk_4_30 hp.1 rfl ?_
    refine xr_iload1 dX4_classify_47 rfl ?_
    refine xr_aload0 dX4_classify_48 rfl ?_
    refine xr_getR dX4_classify_49 fk_4_20 hp.1 rfl ?_
    refine xr_aload0 dX4_classify_52 rfl ?_
    refine xr_getR dX4_classify_53 fk_4_27 hp.1 rfl ?_
    refine xr_iload1 dX4_classify_56 rfl ?_
    show xT _ _ _ 57 _ _ _ _
    refine xr_ialdv i dX4_classify_57 hp.2.2.2.2.1 rfl (by omega) (by first | decide | omega) v10 ?_
    refine xr_i2l dX4_classify_58 ?_
    refine xr_ic0 dX4_classify_59 ?_
    refine xr_cVi [_, _] dX4_classify_60 (xcv_of cf_X0_add ml_4_83 (by decide)) rfl hp.2.2.1.1 rfl rfl rfl (Nat.le_of_ble_eq_true rfl) (hadd) (fun v I2 J2 hc2 => ?_)
    obtain ⟨j, ks', rfl, k2, n2, f2⟩ := hc2
    have e11 : I2 (p + 11) = I1 (p + 11) := (f2 (p + 11) (by simp only [List.mem_cons, List.not_mem_nil, or_false]; omega)).1
    have ep2 : I2 p = I1 p := (f2 p (by simp only [List.mem_cons, List.not_mem_nil, or_false]; omega)).1
    refine xr_iast i dX4_classify_63 hp.2.2.2.2.2.1 rfl (by omega) (by first | decide | omega) ?_
    refine xr_iinc dX4_classify_64 rfl ii_1 (Nat.le_of_ble_eq_true rfl) ?_
    show xT _ _ _ 67 [_, _, _] _ _ _
    refine xr_goto 35 dX4_classify_67 (by decide) ?_
    rw [k_1, nI_add]
    refine IH _ J2 _ ks' ((f1.tr (f2.mono (by simp))).up _ (by simp)) (fun j h1 h2 h3 => by rw [va_up_ne _ _ (by omega), ep2]; exact o1 j h1 h2 h3) (by rw [va_up_ne _ _ (by omega), ep2]; exact k10) (k2.cg (fun a h1 h2 => ⟨by rw [va_up_ne _ _ (by omega)], rfl⟩)) ?_
    rw [up_same, e11]
    exact n2
  refine x_ent (by decide) (Nat.le_of_ble_eq_true rfl) rfl ?_
  show xT _ _ _ 0 [_, _, _] _ _ _
  refine xr_aload0 dX4_classify_0 rfl ?_
  refine xr_getIv dX4_classify_1 fk_4_53 hp.1 rfl h10 ?_
  refine xr_aload0 dX4_classify_4 rfl ?_
  refine xr_getR dX4_classify_5 fk_4_14 hp.1 rfl ?_
  refine xr_getIv dX4_classify_8 fk_4_93 hp.2.1.1 rfl hcnt ?_
  refine xr_icmp_ne 15 dX4_classify_11 (by decide) (fun hneq => ?_) (fun hneq => ?_)
  rotate_left
  · have heq : cd = hs.length := (nI_eq (by omega) (by omega)).mp hneq
    refine xr_vret dX4_classify_14 rfl rfl ⟨hk heq, by rw [h10, heq], hsg, cfx.rf, fun j _ _ _ => rfl⟩
  refine xr_aload0 dX4_classify_15 rfl ?_
  refine xr_aload0 dX4_classify_16 rfl ?_
  refine xr_getR dX4_classify_17 fk_4_14 hp.1 rfl ?_
  refine xr_getIv dX4_classify_20 fk_4_93 hp.2.1.1 rfl hcnt ?_
  refine xr_putI dX4_classify_23 fp_4_53 hp.1 rfl ?_
  generalize hI1 : va_up I p (upd (I p) 10 (nI hs.length)) = I1
  have e1 : ∀ a, a ≠ p → I1 a = I a := fun a ha => by rw [← hI1, va_up_ne _ _ ha]
  have e1p : ∀ j, j ≠ 10 → I1 p j = I p j := fun j h1 => by rw [← hI1, up_same, upd_ne _ _ h1]
  obtain ⟨ks, hks⟩ := hsg
  have hks1 : kT I1 J (p + 5) 200 512 ks := hks.cg (fun a h1 h2 => ⟨e1 a (by omega), rfl⟩)
  refine xr_aload0 dX4_classify_26 rfl ?_
  refine xr_getR dX4_classify_27 fk_4_20 hp.1 rfl ?_
  refine xr_cVv [] dX4_classify_30 (xcv_of cf_X0_clear ml_4_62 (by decide)) rfl hp.2.2.1.1 rfl rfl rfl (Nat.le_of_ble_eq_true rfl) (c0_clear hp.2.2.1 kZ_p hks1) (fun I2 J2 hc2 => ?_)
  obtain ⟨k2, f2⟩ := hc2
  have ep2 : I2 p = I1 p := (f2 p (by simp only [List.mem_cons, List.not_mem_nil, or_false]; omega)).1
  refine xr_ic0 dX4_classify_33 ?_
  refine xr_istore1 dX4_classify_34 (Nat.le_of_ble_eq_true rfl) ?_
  show xT _ _ _ 35 [_, _, _] _ _ _
  refine L1 0 (Nat.zero_le _) I2 J2 _ [] ?_ (fun j h1 h2 h3 => by rw [ep2]; exact e1p j h1) (by rw [ep2, ← hI1, up_same, upd_same]) k2 nmb.nil
  rw [← hI1] at f2
  exact (cfx.rf.up _ (by simp)).tr (f2.mono (by simp))
end C19
