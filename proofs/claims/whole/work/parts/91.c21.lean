section C21
variable {G : xG} {I : xI} {J : xJ}
theorem pFl.clo {M : xMac} {p : Nat} {hs : List (List Nat)} (h : pFl I M p hs) : hClo M hs := fun a ha x hx => by
  obtain ⟨k, hk, rfl⟩ := List.getElem_of_mem ha
  obtain ⟨j, -, h2⟩ := (h k hk).2 x hx
  exact List.mem_of_getElem? h2
noncomputable def apV (M : xMac) (a b : List Nat) : Int32 := match apN M a b 14 0 with
  | none => -8
  | some n => nI (apRow M n a b 1)
theorem c4_partingRow {M : xMac} (hM : mOk M) (hwh : mWhole M) {p : Nat} (hp : isPl p) {hs : List (List Nat)} (hl : hs.length ≤ 200) (hg : ∀ a ∈ hs, wGood M a) (h8 : I p 8 = nI (mK M)) (hf : pFl I M p hs) (hk : pKd I M p hs) {a b : Nat} (ha : a < hs.length) (hb : b < hs.length) : xCon G M_X4_partingRow [.ref (G.1 p), .int (nI a), .int (nI b)] I J (xpi fun v I' J' => v = apV M (hs.getD a []) (hs.getD b []) ∧ I = I' ∧ J = J') := by
  have hK4 := hM.2.1
  obtain ⟨l, rc, hl1, hst, -, -, h12, hrc1, hrc, hrd, hrs⟩ := hk
  have L2 : ∀ now, now < rc → ∀ left right row (z3 : Int32) (z8 : Option Value), left < hs.length → right < hs.length → wEqn M now (hs.getD left []) (hs.getD right []) → ¬ wEqn M (now + 1) (hs.getD left []) (hs.getD right []) → apV M (hs.getD a []) (hs.getD b []) = nI (apRow M (now + 1) (hs.getD left []) (hs.getD right []) row) → row < 2 * 4 ^ (rc - 1 - now) → xT G M_X4_partingRow (xMQ G (xpi fun v I' J' => v = apV M (hs.getD a []) (hs.getD b []) ∧ I = I' ∧ J = J')) 49 [some (.ref (G.1 p)), some (.int (nI a)), some (.int (nI b)), some (.int z3), some (.int (nI row)), some (.int (nI left)), some (.int (nI right)), some (.int (nI now)), z8] [] I J := by
    intro now
    induction now with
    | zero =>
      intro hn left right row z3 z8 hle hri he hne hv hrow
      have hlo : wOk M (hs.getD left []) := by rw [getD_lt hle]; exact (hg _ (List.getElem_mem hle)).2.2
      have hro : wOk M (hs.getD right []) := by rw [getD_lt hri]; exact (hg _ (List.getElem_mem hri)).2.2
      have w1 := wrt_256 hM hwh hlo
      have w2 := wrt_256 hM hwh hro
      have v1 := (hf left hle).1
      have v2 := (hf right hri).1
      rw [← getD_lt hle] at v1
      rw [← getD_lt hri] at v2
      have hp13 : 4 ^ (rc - 1 - 0) ≤ 4 ^ 13 := Nat.pow_le_pow_right (by decide) (by omega)
      have h413 : 4 ^ 13 = 67108864 := by decide
      have hex : ∃ x, x < mK M ∧ wrt M (hs.getD left []) (mK M) / 4 ^ x % 4 ≠ wrt M (hs.getD right []) (mK M) / 4 ^ x % 4 := by
        refine Classical.byContradiction (fun hn => hne (fun x hx => ⟨?_, trivial⟩))
        rw [← wrt_dig hM hwh hlo _ (Nat.le_refl _) x hx, ← wrt_dig hM hwh hro _ (Nat.le_refl _) x hx]
        exact Classical.byContradiction (fun q => hn ⟨x, hx, q⟩)
      refine xr_iload dX4_partingRow_49 rfl ?_
      refine xr_if_le 111 dX4_partingRow_51 (by decide) (fun hz => ?_) (fun hz => ?_)
      rotate_left
      · exact absurd (by decide) hz
      refine xr_ic4 dX4_partingRow_111 ?_
      refine xr_iload dX4_partingRow_112 rfl ?_
      refine xr_imul dX4_partingRow_114 ?_
      refine xr_aload0 dX4_partingRow_115 rfl ?_
      refine xr_aload0 dX4_partingRow_116 rfl ?_
      refine xr_getR dX4_partingRow_117 fk_4_27 hp.1 rfl ?_
      refine xr_iload dX4_partingRow_120 rfl ?_
      refine xr_ialdv left dX4_partingRow_122 hp.2.2.2.2.1 rfl (by omega) (by first | decide | omega) v1 ?_
      show xT _ _ _ 123 _ _ _ _
      refine xr_aload0 dX4_partingRow_123 rfl ?_
      refine xr_getR dX4_partingRow_124 fk_4_27 hp.1 rfl ?_
      refine xr_iload dX4_partingRow_127 rfl ?_
      refine xr_ialdv right dX4_partingRow_129 hp.2.2.2.2.1 rfl (by omega) (by first | decide | omega) v2 ?_
      refine xr_ixor dX4_partingRow_130 ?_
      rw [nI_xor (by omega) (by omega)]
      refine xr_cVi [_] dX4_partingRow_131 (xcv_of cf_X4_firstUnlikeLetter ml_4_124 (by decide)) rfl hp.1 rfl rfl rfl (Nat.le_of_ble_eq_true rfl) (c4_firstUnlikeLetter hK4 hp h8 w1 w2 hex) (fun v I1 J1 hc1 => ?_)
      obtain ⟨⟨x, rfl, hx, hd, hy⟩, rfl, rfl⟩ := hc1
      refine xr_iadd dX4_partingRow_134 ?_
      rw [k_4, pk_mul, nI_add]
      refine xr_iret dX4_partingRow_135 rfl rfl ⟨?_, rfl, rfl⟩
      rw [hv]
      have hX : apX M 0 (hs.getD left []) (hs.getD right []) = x := apX_is hx (fun q => hd (by rw [wrt_dig hM hwh hlo _ (Nat.le_refl _) x hx, wrt_dig hM hwh hro _ (Nat.le_refl _) x hx]; exact q.1)) (fun y hyx => ⟨by rw [← wrt_dig hM hwh hlo _ (Nat.le_refl _) y (by omega), ← wrt_dig hM hwh hro _ (Nat.le_refl _) y (by omega)]; exact hy y hyx, trivial⟩)
      show _ = nI (4 * row + apX M 0 (hs.getD left []) (hs.getD right []))
      rw [hX]
    | succ now IH =>
      intro hn left right row z3 z8 hle hri he hne hv hrow
      have hp13 : 4 ^ (rc - 1 - (now + 1)) ≤ 4 ^ 13 := Nat.pow_le_pow_right (by decide) (by omega)
      have h413 : 4 ^ 13 = 67108864 := by decide
      obtain ⟨c, hc⟩ := hrd now (by omega)
      have hex : ∃ x, x < mK M ∧ ¬ wEqn M (now + 1) (wpart M (hs.getD left []) x) (wpart M (hs.getD right []) x) := by
        refine Classical.byContradiction (fun hn => hne ((eqn_sg (by omega)).mpr ⟨he, fun x hx => Classical.byContradiction (fun q => hn ⟨x, hx, q⟩)⟩))
      refine xr_iload dX4_partingRow_49 rfl ?_
      refine xr_if_le 111 dX4_partingRow_51 (by decide) (fun hz => ?_) (fun hz => ?_)
      · have := (nI_leI (b := 0) (by omega) (by decide)).mp hz; omega
      refine xr_aload0 dX4_partingRow_54 rfl ?_
      refine xr_iload dX4_partingRow_55 rfl ?_
      refine xr_ic1 dX4_partingRow_57 ?_
      refine xr_isub dX4_partingRow_58 ?_
      rw [k_1, pk_sub (by omega), Nat.add_sub_cancel]
      refine xr_iload dX4_partingRow_59 rfl ?_
      refine xr_iload dX4_partingRow_61 rfl ?_
      refine xr_cVi [_, _, _] dX4_partingRow_63 (xcv_of cf_X4_firstPartingLetter ml_4_120 (by decide)) rfl hp.1 rfl rfl rfl (Nat.le_of_ble_eq_true rfl) (c4_firstPartingLetter hK4 hp hl h8 hf (by omega) hc hle hri hex) (fun v I1 J1 hc1 => ?_)
      obtain ⟨⟨x, rfl, hx, hd, hy⟩, rfl, rfl⟩ := hc1
      obtain ⟨a1, a2, a3⟩ := hf.pj hl hle hx
      obtain ⟨b1, b2', b3⟩ := hf.pj hl hri hx
      have hX : apX M (now + 1) (hs.getD left []) (hs.getD right []) = x := apX_is hx (fun q => hd q.2) (fun y hyx => ⟨(he y (by omega)).1, hy y hyx⟩)
      refine xr_istore dX4_partingRow_66 (Nat.le_of_ble_eq_true rfl) ?_
      show xT _ _ _ 68 [_, _, _, _, _, _, _, _, _] _ _ _
      refine xr_ic4 dX4_partingRow_68 ?_
      refine xr_iload dX4_partingRow_69 rfl ?_
      refine xr_imul dX4_partingRow_71 ?_
      refine xr_iload dX4_partingRow_72 rfl ?_
      refine xr_iadd dX4_partingRow_74 ?_
      rw [k_4, pk_mul, nI_add]
      refine xr_istore dX4_partingRow_75 (Nat.le_of_ble_eq_true rfl) ?_
      show xT _ _ _ 77 [_, _, _, _, _, _, _, _, _] _ _ _
      refine xr_aload0 dX4_partingRow_77 rfl ?_
      refine xr_getR dX4_partingRow_78 fk_4_23 hp.1 rfl ?_
      refine xr_iload dX4_partingRow_81 rfl ?_
      refine xr_ic4 dX4_partingRow_83 ?_
      refine xr_imul dX4_partingRow_84 ?_
      refine xr_iload dX4_partingRow_85 rfl ?_
      refine xr_iadd dX4_partingRow_87 ?_
      show xT _ _ _ 88 _ _ _ _
      refine xr_ialdv (4 * left + x) dX4_partingRow_88 hp.2.2.2.1 (by rw [k_4, pk_mul, nI_add, Nat.mul_comm]) (by omega) (by first | decide | omega) a1 ?_
      refine xr_istore dX4_partingRow_89 (Nat.le_of_ble_eq_true rfl) ?_
      show xT _ _ _ 91 [_, _, _, _, _, _, _, _, _] _ _ _
      refine xr_aload0 dX4_partingRow_91 rfl ?_
      refine xr_getR dX4_partingRow_92 fk_4_23 hp.1 rfl ?_
      refine xr_iload dX4_partingRow_95 rfl ?_
      refine xr_ic4 dX4_partingRow_97 ?_
      refine xr_imul dX4_partingRow_98 ?_
      refine xr_iload dX4_partingRow_99 rfl ?_
      refine xr_iadd dX4_partingRow_101 ?_
      show xT _ _ _ 102 _ _ _ _
      refine xr_ialdv (4 * right + x) dX4_partingRow_102 hp.2.2.2.1 (by rw [k_4, pk_mul, nI_add, Nat.mul_comm]) (by omega) (by first | decide | omega) b1 ?_
      refine xr_istore dX4_partingRow_103 (Nat.le_of_ble_eq_true rfl) ?_
      show xT _ _ _ 105 [_, _, _, _, _, _, _, _, _] _ _ _
      refine xr_iinc dX4_partingRow_105 rfl ii_m1 (Nat.le_of_ble_eq_true rfl) ?_
      show xT _ _ _ 108 [_, _, _, _, _, _, _, _, _] _ _ _
      refine xr_goto 49 dX4_partingRow_108 (by decide) ?_
      have ev : nI (now + 1) + -1 = nI now := by
        rw [show (-1 : Int32) = -(1 : Int32) from rfl, ← Int32.sub_eq_add_neg, k_1, pk_sub (by omega), Nat.add_sub_cancel]
      rw [ev]
      refine IH (by omega) _ _ (4 * row + x) _ _ a2 b2' (by rw [a3, b3]; exact (he x hx).2) (by rw [a3, b3]; exact hd) ?_ ?_
      · rw [hv, a3, b3]
        show nI (apRow M (now + 1) (wpart M _ (apX M (now + 1) _ _)) (wpart M _ (apX M (now + 1) _ _)) (4 * row + apX M (now + 1) _ _)) = _
        rw [hX]
      · have e : rc - 1 - now = (rc - 1 - (now + 1)) + 1 := by omega
        rw [e, Nat.pow_succ]
        omega
  have L1 : ∀ r, r ≤ rc → ∀ (z4 z5 z6 z7 z8 : Option Value), wEqn M r (hs.getD a []) (hs.getD b []) → xT G M_X4_partingRow (xMQ G (xpi fun v I' J' => v = apV M (hs.getD a []) (hs.getD b []) ∧ I = I' ∧ J = J')) 2 [some (.ref (G.1 p)), some (.int (nI a)), some (.int (nI b)), some (.int (nI r)), z4, z5, z6, z7, z8] [] I J := by
    refine x_for (fun r hr IH z4 z5 z6 z7 z8 he => ?_)
    have K26 : (r < rc → ¬ wEqn M (r + 1) (hs.getD a []) (hs.getD b [])) → xT G M_X4_partingRow (xMQ G (xpi fun v I' J' => v = apV M (hs.getD a []) (hs.getD b []) ∧ I = I' ∧ J = J')) 26 [some (.ref (G.1 p)), some (.int (nI a)), some (.int (nI b)), some (.int (nI r)), z4, z5, z6, z7, z8] [] I J := by
      intro hne
      refine xr_iload3 dX4_partingRow_26 rfl ?_
      refine xr_aload0 dX4_partingRow_27 rfl ?_
      refine xr_getIv dX4_partingRow_28 fk_4_59 hp.1 rfl h12 ?_
      refine xr_icmp_lt 37 dX4_partingRow_31 (by decide) (fun hlt => ?_) (fun hlt => ?_)
      · have hlt := nltl hlt
        have hap : apN M (hs.getD a []) (hs.getD b []) 14 0 = some (r + 1) := apN_some 14 0 (by omega) (by omega) (fun j _ hj => he.le (by omega)) (hne hlt)
        refine xr_ic1 dX4_partingRow_37 ?_
        refine xr_istore dX4_partingRow_38 (Nat.le_of_ble_eq_true rfl) ?_
        show xT _ _ _ 40 [_, _, _, _, _, _, _, _, _] _ _ _
        refine xr_iload1 dX4_partingRow_40 rfl ?_
        refine xr_istore dX4_partingRow_41 (Nat.le_of_ble_eq_true rfl) ?_
        show xT _ _ _ 43 [_, _, _, _, _, _, _, _, _] _ _ _
        refine xr_iload2 dX4_partingRow_43 rfl ?_
        refine xr_istore dX4_partingRow_44 (Nat.le_of_ble_eq_true rfl) ?_
        show xT _ _ _ 46 [_, _, _, _, _, _, _, _, _] _ _ _
        refine xr_iload3 dX4_partingRow_46 rfl ?_
        refine xr_istore dX4_partingRow_47 (Nat.le_of_ble_eq_true rfl) ?_
        show xT _ _ _ 49 [_, _, _, _, _, _, _, _, _] _ _ _
        show xT _ _ _ 49 _ _ _ _
        refine L2 r hlt a b 1 _ _ ha hb he (hne hlt) (by unfold apV; rw [hap]) ?_
        have := Nat.pow_pos (n := rc - 1 - r) (show 0 < 4 by decide)
        omega
      · have hlt := nnlt hlt
        have : r = rc := by omega
        subst this
        refine xr_bip bi_m8 dX4_partingRow_34 ?_
        refine xr_iret dX4_partingRow_36 rfl rfl ⟨?_, rfl, rfl⟩
        have hall : ∀ j, j ≤ 0 + 14 → wEqn M j (hs.getD a []) (hs.getD b []) := fun j hj => by
          rcases Nat.lt_or_ge r 14 with q | q
          · have hma : hs.getD a [] ∈ hs := by rw [getD_lt ha]; exact List.getElem_mem _
            have hmb : hs.getD b [] ∈ hs := by rw [getD_lt hb]; exact List.getElem_mem _
            exact (stb_al hf.clo (hrs q) hma hmb).mp (stb (hrs q) ha hb he) j
          · exact he.le (by omega)
        unfold apV
        rw [apN_none 14 0 hall]
    refine xr_iload3 dX4_partingRow_2 rfl ?_
    refine xr_aload0 dX4_partingRow_3 rfl ?_
    refine xr_getIv dX4_partingRow_4 fk_4_59 hp.1 rfl h12 ?_
    refine xr_icmp_ge 26 dX4_partingRow_7 (by decide) (fun hge => ?_) (fun hge => ?_)
    · exact K26 (fun q => by have := nle hge; omega)
    have hrl := nlt hge
    obtain ⟨c, hc⟩ := hrd r hrl
    refine xr_aload0 dX4_partingRow_10 rfl ?_
    refine xr_iload3 dX4_partingRow_11 rfl ?_
    refine xr_iload1 dX4_partingRow_12 rfl ?_
    refine xr_iload2 dX4_partingRow_13 rfl ?_
    refine xr_cVi [_, _, _] dX4_partingRow_14 (xcv_of cf_X4_arePartedBy ml_4_116 (by decide)) rfl hp.1 rfl rfl rfl (Nat.le_of_ble_eq_true rfl) (c4_arePartedBy hp hl (by omega) hc ha hb) (fun v I1 J1 hc1 => ?_)
    obtain ⟨rfl, rfl, rfl⟩ := hc1
    refine xr_if_ne 26 dX4_partingRow_17 (by decide) (fun hz => ?_) (fun hz => ?_)
    · exact K26 (fun _ q => by rw [wE_iff.mpr q] at hz; exact hz rfl)
    have hz : wE M (r + 1) (hs.getD a []) (hs.getD b []) = true := by
      have := b2_0.mp hz
      simpa using this
    refine xr_iinc dX4_partingRow_20 rfl ii_1 (Nat.le_of_ble_eq_true rfl) ?_
    show xT _ _ _ 23 [_, _, _, _, _, _, _, _, _] _ _ _
    refine xr_goto 2 dX4_partingRow_23 (by decide) ?_
    rw [k_1, nI_add]
    exact IH hrl _ _ _ _ _ (wE_iff.mp hz)
  refine x_ent (by decide) (Nat.le_of_ble_eq_true rfl) rfl ?_
  show xT _ _ _ 0 [_, _, _, _, _, _, _, _, _] _ _ _
  refine xr_ic0 dX4_partingRow_0 ?_
  refine xr_istore3 dX4_partingRow_1 (Nat.le_of_ble_eq_true rfl) ?_
  show xT _ _ _ 2 [_, _, _, _, _, _, _, _, _] _ _ _
  exact L1 0 (by omega) _ _ _ _ _ trivial
theorem c4_reset {p : Nat} (hp : isPl p) {ks : List kK} (h : kT I J (p + 1) 200 512 ks) : xCon G M_X4_reset [.ref (G.1 p)] I J (xpv fun I' J' => pWd I' J' p [] ∧ I' p 9 = nI 0 ∧ I' p 10 = nI 0 ∧ cfx [p, p + 1, p + 1 + 3] I J I' J' ∧ (∀ j, j ≠ 9 → j ≠ 10 → j ≠ 11 → j ≠ 12 → I' p j = I p j)) := by
  refine x_ent (by decide) (Nat.le_of_ble_eq_true rfl) rfl ?_
  show xT _ _ _ 0 [_] _ _ _
  refine xr_aload0 dX4_reset_0 rfl ?_
  refine xr_getR dX4_reset_1 fk_4_14 hp.1 rfl ?_
  refine xr_cVv [] dX4_reset_4 (xcv_of cf_X0_clear ml_4_62 (by decide)) rfl hp.2.1.1 rfl rfl rfl (Nat.le_of_ble_eq_true rfl) (c0_clear hp.2.1 kZ_p h) (fun I1 J1 hc => ?_)
  obtain ⟨k1, f1⟩ := hc
  have ep : I1 p = I p := (f1 p (by simp only [List.mem_cons, List.not_mem_nil, or_false]; omega)).1
  refine xr_aload0 dX4_reset_7 rfl ?_
  refine xr_ic0 dX4_reset_8 ?_
  refine xr_putI dX4_reset_9 fp_4_50 hp.1 rfl ?_
  generalize hI2 : va_up I1 p (upd (I1 p) 9 0) = I2
  refine xr_aload0 dX4_reset_12 rfl ?_
  refine xr_ic0 dX4_reset_13 ?_
  refine xr_putI dX4_reset_14 fp_4_53 hp.1 rfl ?_
  generalize hI3 : va_up I2 p (upd (I2 p) 10 0) = I3
  refine xr_aload0 dX4_reset_17 rfl ?_
  refine xr_ic0 dX4_reset_18 ?_
  refine xr_putI dX4_reset_19 fp_4_56 hp.1 rfl ?_
  generalize hI4 : va_up I3 p (upd (I3 p) 11 0) = I4
  refine xr_aload0 dX4_reset_22 rfl ?_
  refine xr_ic0 dX4_reset_23 ?_
  refine xr_putI dX4_reset_24 fp_4_59 hp.1 rfl ?_
  generalize hI5 : va_up I4 p (upd (I4 p) 12 0) = I5
  have eo : ∀ a, a ≠ p → I5 a = I1 a := fun a ha => by rw [← hI5, va_up_ne _ _ ha, ← hI4, va_up_ne _ _ ha, ← hI3, va_up_ne _ _ ha, ← hI2, va_up_ne _ _ ha]
  refine xr_vret dX4_reset_27 rfl rfl ⟨⟨k1.cg (fun a h1 h2 => ⟨eo a (by omega), rfl⟩), (fun a ha => by cases ha)⟩, ?_, ?_, ?_, fun j h9 h10 h11 h12 => ?_⟩
  · rw [← hI5, up_same, upd_ne _ _ (by decide), ← hI4, up_same, upd_ne _ _ (by decide), ← hI3, up_same, upd_ne _ _ (by decide), ← hI2, up_same, upd_same]; rfl
  · rw [← hI5, up_same, upd_ne _ _ (by decide), ← hI4, up_same, upd_ne _ _ (by decide), ← hI3, up_same, upd_same]; rfl
  · rw [← hI5, ← hI4, ← hI3, ← hI2]
    exact ((((f1.mono (by simp)).up _ (by simp)).up _ (by simp)).up _ (by simp)).up _ (by simp)
  · rw [← hI5, up_same, upd_ne _ _ h12, ← hI4, up_same, upd_ne _ _ h11, ← hI3, up_same, upd_ne _ _ h10, ← hI2, up_same, upd_ne _ _ h9, ep]
theorem c4_indexOf {p : Nat} (hp : isPl p) {hs : List (List Nat)} (h : pWd I J p hs) {w : Nat} (hw : isW w) {ws : List Nat} (hs' : cWd I J w ws) (h16 : w16 ws) (hm : ws ∈ hs) : xCon G M_X4_indexOf [.ref (G.1 p), .ref (G.1 w)] I J (xpi fun v I' J' => (∃ i, hs[i]? = some ws ∧ v = nI i) ∧ I = I' ∧ J = J') := by
  refine x_ent (by decide) (Nat.le_of_ble_eq_true rfl) rfl ?_
  show xT _ _ _ 0 [_, _] _ _ _
  refine xr_aload0 dX4_indexOf_0 rfl ?_
  refine xr_getR dX4_indexOf_1 fk_4_14 hp.1 rfl ?_
  refine xr_aload1 dX4_indexOf_4 rfl ?_
  refine xr_getJv dX4_indexOf_5 fk_4_65 hw rfl hs'.1 ?_
  refine xr_aload1 dX4_indexOf_8 rfl ?_
  refine xr_getIv dX4_indexOf_9 fk_4_69 hw rfl hs'.2 ?_
  refine xr_cVi [_, _] dX4_indexOf_12 (xcv_of cf_X0_find ml_4_72 (by decide)) rfl hp.2.1.1 rfl rfl rfl (Nat.le_of_ble_eq_true rfl) (c0_find hp.2.1 kZ_p h.1 _ _) (fun v I1 J1 hc => ?_)
  obtain ⟨hv, rfl, rfl⟩ := hc
  refine xr_iret dX4_indexOf_15 rfl rfl ⟨?_, rfl, rfl⟩
  rcases hv with ⟨i, hi, rfl⟩ | ⟨hn, -⟩
  · rw [List.getElem?_map] at hi
    obtain ⟨a, ha, e⟩ := Option.map_eq_some_iff.mp hi
    exact ⟨i, by rw [ha, wk_inj (h.2 a (List.mem_of_getElem? ha)) h16 e], rfl⟩
  · exact absurd (List.mem_map_of_mem hm) hn
end C21
