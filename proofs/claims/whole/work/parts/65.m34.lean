section M34
variable {G : xG} {I : xI} {J : xJ}
theorem l_1e6 : (1000000 : Int64) = lN 1000000 := rfl
theorem c9_order {S : xSt} (a n : Int32) (h : mIv I S) : xCon G M_X9_order [.ref (G.1 77), .int a, .int n] I J (xpi fun v I' J' => v = sp_order S a n ∧ mIv I' S ∧ mfr I J I' J') := by
  refine x_ent (by decide) (Nat.le_of_ble_eq_true rfl) rfl ?_
  show xT _ _ _ 0 [_, _, _, _, _, _, _, _, _, _] _ _ _
  refine xr_aload0 dX9_order_0 rfl ?_
  refine xr_iload2 dX9_order_1 rfl ?_
  refine xr_sip si_256 dX9_order_2 ?_
  rw [k_256]
  refine xr_cVi [_, _] dX9_order_5 (xcv_of cf_X9_rowsOf ml_9_223 (by decide)) rfl lay_77 rfl rfl rfl (Nat.le_of_ble_eq_true rfl) (c9_rowsOf h.2.1 n (by decide) (by decide)) (fun v I1 J1 hc => ?_)
  obtain ⟨rfl, rfl, rfl⟩ := hc
  refine xr_istore3 dX9_order_8 (Nat.le_of_ble_eq_true rfl) ?_
  show xT _ _ _ 9 [_, _, _, _, _, _, _, _, _, _] _ _ _
  refine xr_iload1 dX9_order_9 rfl ?_
  refine xr_cSi [_] dX9_order_10 (xcs_of cf_X9_isSpot ml_9_137 (by decide)) rfl rfl (Nat.le_of_ble_eq_true rfl) (c9_isSpot _) (fun v I1 J1 hc => ?_)
  obtain ⟨rfl, rfl, rfl⟩ := hc
  refine xr_if_eq 20 dX9_order_13 (by decide) (fun hs => ?_) (fun hs => ?_)
  · have hs := is_n hs
    have e : sp_order S a n = -1 := by unfold sp_order; rw [hs]
    refine xr_icm1 dX9_order_20 ?_
    refine xr_iret dX9_order_21 rfl rfl ⟨by rw [e], h, mfr.rf⟩
  obtain ⟨w, hs⟩ := is_s hs
  obtain ⟨hw8, rfl⟩ := ix_some hs
  cases hl : lvl (mK S.2.1) n 256 with
  | none =>
    have e : sp_order S (nI w) n = -1 := by unfold sp_order; rw [hs, hl]
    refine xr_iload3 dX9_order_16 rfl ?_
    refine xr_if_ge 22 dX9_order_17 (by decide) (fun hge => ?_) (fun hge => ?_)
    · exact absurd hge (show ¬ (0 : Int32) ≤ -1 by decide)
    refine xr_icm1 dX9_order_20 ?_
    refine xr_iret dX9_order_21 rfl rfl ⟨by rw [e], h, mfr.rf⟩
  | some n' =>
  obtain ⟨rfl, hn⟩ := lvl_some hl
  have hK2 := h.2.1.1.1
  have hn8 := lvl_8 hK2 hn
  refine xr_iload3 dX9_order_16 rfl ?_
  refine xr_if_ge 22 dX9_order_17 (by decide) (fun hge => ?_) (fun hge => ?_)
  rotate_left
  · exact absurd (nI_pos' (by omega)) hge
  refine xr_aload0 dX9_order_22 rfl ?_
  refine xr_cVi [] dX9_order_23 (xcv_of cf_X9_isWhole ml_9_133 (by decide)) rfl lay_77 rfl rfl rfl (Nat.le_of_ble_eq_true rfl) (c9_isWhole h.2.1) (fun v I2 J2 hc => ?_)
  obtain ⟨rfl, rfl, rfl⟩ := hc
  refine xr_if_ne 32 dX9_order_26 (by decide) (fun hwh => ?_) (fun hwh => ?_)
  rotate_left
  · have hwh := b2_0.mp hwh
    refine xr_bip bi_m5 dX9_order_29 ?_
    refine xr_iret dX9_order_31 rfl rfl ⟨by simp [sp_order, hs, hl, hwh], h, mfr.rf⟩
  have hwh : mW S.2.1 = true := by
    cases hq : mW S.2.1 with
    | true => rfl
    | false => rw [hq] at hwh; exact absurd rfl hwh
  have hwhole := mW_iff.mp hwh
  obtain ⟨⟨w84, w83⟩, wl, wr, wo⟩ := h.2.2 w hw8
  have hM := h.2.1.1
  have L3 : wAllB S.2.1 (S.2.2 w) → ∀ p, p ≤ mK S.2.1 ^ n' → ∀ I1 (z7 z8 z9 : Option Value), mfx [85, 88, 97] [13, 14, 16] I I1 → (∀ p', p' < mK S.2.1 ^ n' → I1 97 p' = nI (wkp S.2.1 n' (S.2.2 w) p')) → ordL (wkp S.2.1 n' (S.2.2 w)) (mK S.2.1 ^ n') p ≤ 1000000 → xT G M_X9_order (xMQ G (xpi fun v I' J' => v = sp_order S (nI w) (nI n') ∧ mIv I' S ∧ mfr I J I' J')) 149 [some (.ref (G.1 77)), some (.int (nI w)), some (.int (nI n')), some (.int (nI (mK S.2.1 ^ n'))), some (.long (lN (ordL (wkp S.2.1 n' (S.2.2 w)) (mK S.2.1 ^ n') p))), none, some (.int (nI p)), z7, z8, z9] [] I1 J := by
    intro hb
    have pm := wkp_pm (n := n') hM hwhole hb
    generalize hf : wkp S.2.1 n' (S.2.2 w) = f at pm ⊢
    have hord : ordOf S.2.1 n' (S.2.2 w) = ordL f (mK S.2.1 ^ n') (mK S.2.1 ^ n') := by unfold ordOf; rw [hf]
    have hbk := wBk_iff.mpr hb
    generalize hN : mK S.2.1 ^ n' = N at *
    refine x_for (fun p hp IH I1 z7 z8 z9 f1 t1 o1 => ?_)
    refine xr_iload dX9_order_149 rfl ?_
    refine xr_iload3 dX9_order_151 rfl ?_
    refine xr_icmp_ge 225 dX9_order_152 (by decide) (fun hc => ?_) (fun hc => ?_)
    · have : p = N := by have := nle hc; omega
      subst this
      refine xr_lload dX9_order_225 rfl ?_
      refine xr_l2i dX9_order_227 ?_
      rw [lN_i]
      refine xr_iret dX9_order_228 rfl rfl ⟨?_, f1.iv h (by decide) (by decide), f1.fr (by decide) rfl⟩
      have : ¬ 1000000 < ordOf S.2.1 n' (S.2.2 w) := by rw [hord]; omega
      simp [sp_order, hs, hl, hwh, hbk, this]
      rw [hord]
    have hpl := nlt hc
    have IH := IH hpl
    obtain ⟨c1, c2, c3, c4⟩ := cyc_spec pm hpl
    have Lk : ∀ k, k ≤ cyc f N p → 1 ≤ k → xT G M_X9_order (xMQ G (xpi fun v I' J' => v = sp_order S (nI w) (nI n') ∧ mIv I' S ∧ mfr I J I' J')) 167 [some (.ref (G.1 77)), some (.int (nI w)), some (.int (nI n')), some (.int (nI N)), some (.long (lN (ordL f N p))), none, some (.int (nI p)), some (.long (lN k)), none, some (.int (nI (itr f k p)))] [] I1 J := by
      refine x_for (fun k hk IHk hk1 => ?_)
      have hql := pm.lt hpl k
      refine xr_iload dX9_order_167 rfl ?_
      refine xr_iload dX9_order_169 rfl ?_
      refine xr_icmp_eq 192 dX9_order_171 (by decide) (fun hq => ?_) (fun hq => ?_)
      · have hq : itr f k p = p := (nI_eq (by omega) (by omega)).mp hq
        have hkc : k = cyc f N p := by
          rcases Nat.lt_or_ge k (cyc f N p) with q | q
          · exact absurd hq (c4 k hk1 q)
          · omega
        subst hkc
        have g0 : 0 < Nat.gcd (ordL f N p) (cyc f N p) := Nat.gcd_pos_of_pos_left _ (ordL_pos f N p)
        have gl : Nat.gcd (ordL f N p) (cyc f N p) ≤ ordL f N p := Nat.le_of_dvd (ordL_pos f N p) (Nat.gcd_dvd_left _ _)
        have hne : ¬ lN (Nat.gcd (ordL f N p) (cyc f N p)) = 0 := fun q => by
          have : Nat.gcd (ordL f N p) (cyc f N p) = 0 := (pk_lEQ (b := 0) (by omega) (by decide)).mp q
          omega
        have hlc : ordL f N (p + 1) = Nat.lcm (ordL f N p) (cyc f N p) := rfl
        have hlm : Nat.lcm (ordL f N p) (cyc f N p) ≤ ordL f N p * cyc f N p := by
          rw [Nat.lcm]; exact Nat.div_le_self _ _
        have hlm2 : ordL f N p * cyc f N p ≤ 1000000 * 256 := Nat.mul_le_mul o1 (by omega)
        refine xr_lload dX9_order_192 rfl ?_
        refine xr_lload dX9_order_194 rfl ?_
        refine xr_lload dX9_order_196 rfl ?_
        refine xr_cSl [_, _] dX9_order_198 (xcs_of cf_X9_common ml_9_238 (by decide)) rfl rfl (Nat.le_of_ble_eq_true rfl) (c9_common (by omega) (by omega)) (fun v I2 J2 hc => ?_)
        obtain ⟨rfl, rfl, rfl⟩ := hc
        refine xr_ldiv dX9_order_201 hne ?_
        rw [pk_lDiv (by omega) g0 (by omega)]
        refine xr_lload dX9_order_202 rfl ?_
        refine xr_lmul dX9_order_204 ?_
        rw [lN_mul, lcm_div, ← hlc]
        refine xr_lstore dX9_order_205 (Nat.le_of_ble_eq_true rfl) ?_
        show xT _ _ _ 207 [_, _, _, _, _, _, _, _, _, _] _ _ _
        refine xr_lload dX9_order_207 rfl ?_
        refine xr_ldc2 cs_9_242 dX9_order_209 ?_
        refine xr_lcmp dX9_order_212 ?_
        rw [l_1e6]
        refine xr_if_le 219 dX9_order_213 (by decide) (fun hle => ?_) (fun hle => ?_)
        rotate_left
        · have hle : ¬ ordL f N (p + 1) ≤ 1000000 := fun q => hle ((lg_cmp_le _ _).mpr ((pk_lLE (by omega) (by decide)).mpr q))
          refine xr_bip bi_m7 dX9_order_216 ?_
          refine xr_iret dX9_order_218 rfl rfl ⟨?_, f1.iv h (by decide) (by decide), f1.fr (by decide) rfl⟩
          have : 1000000 < ordOf S.2.1 n' (S.2.2 w) := by
            rw [hord]
            have := ordL_le f N (p := p + 1) (q := N) (by omega)
            omega
          simp [sp_order, hs, hl, hwh, hbk, this]
        have hle : ordL f N (p + 1) ≤ 1000000 := (pk_lLE (by omega) (by decide)).mp ((lg_cmp_le _ _).mp hle)
        refine xr_iinc dX9_order_219 rfl ii_1 (Nat.le_of_ble_eq_true rfl) ?_
        show xT _ _ _ 222 [_, _, _, _, _, _, _, _, _, _] _ _ _
        refine xr_goto 149 dX9_order_222 (by decide) ?_
        rw [k_1, nI_add]
        exact IH I1 _ _ _ f1 t1 hle
      · have hkl : k < cyc f N p := by
          rcases Nat.lt_or_ge k (cyc f N p) with q | q
          · exact q
          · have : k = cyc f N p := by omega
            exact absurd (by rw [this, c3]) hq
        refine xr_lload dX9_order_174 rfl ?_
        refine xr_lc1 dX9_order_176 ?_
        refine xr_ladd dX9_order_177 ?_
        refine xr_lstore dX9_order_178 (Nat.le_of_ble_eq_true rfl) ?_
        show xT _ _ _ 180 [_, _, _, _, _, _, _, _, _, _] _ _ _
        refine xr_aload0 dX9_order_180 rfl ?_
        refine xr_getR dX9_order_181 fk_9_72 lay_77 rfl ?_
        refine xr_iload dX9_order_184 rfl ?_
        refine xr_ialdv (itr f k p) dX9_order_186 lay_97 rfl (by omega) (by decide) (t1 _ hql) ?_
        show xT _ _ _ 187 _ _ _ _
        refine xr_istore dX9_order_187 (Nat.le_of_ble_eq_true rfl) ?_
        show xT _ _ _ 189 [_, _, _, _, _, _, _, _, _, _] _ _ _
        refine xr_goto 167 dX9_order_189 (by decide) ?_
        rw [lN_1, show f (itr f k p) = itr f (k + 1) p from (itr_succ f k p).symm]
        exact IHk hkl (by omega)
    refine xr_lc1 dX9_order_155 ?_
    refine xr_lstore dX9_order_156 (Nat.le_of_ble_eq_true rfl) ?_
    show xT _ _ _ 158 [_, _, _, _, _, _, _, _, _, _] _ _ _
    refine xr_aload0 dX9_order_158 rfl ?_
    refine xr_getR dX9_order_159 fk_9_72 lay_77 rfl ?_
    refine xr_iload dX9_order_162 rfl ?_
    refine xr_ialdv p dX9_order_164 lay_97 rfl (by omega) (by decide) (t1 _ hpl) ?_
    refine xr_istore dX9_order_165 (Nat.le_of_ble_eq_true rfl) ?_
    show xT _ _ _ 167 [_, _, _, _, _, _, _, _, _, _] _ _ _
    exact Lk 1 c1 (Nat.le_refl _)
  have L2 : wAllB S.2.1 (S.2.2 w) → ∀ p, p ≤ mK S.2.1 ^ n' → ∀ I1 (z5 z6 z7 z8 z9 : Option Value), mfx [85, 88, 97] [13, 14, 16] I I1 → (∀ p', p' < p → I1 97 p' = nI (wkp S.2.1 n' (S.2.2 w) p')) → xT G M_X9_order (xMQ G (xpi fun v I' J' => v = sp_order S (nI w) (nI n') ∧ mIv I' S ∧ mfr I J I' J')) 77 [some (.ref (G.1 77)), some (.int (nI w)), some (.int (nI n')), some (.int (nI (mK S.2.1 ^ n'))), some (.int (nI p)), z5, z6, z7, z8, z9] [] I1 J := by
    intro hb
    refine x_for (fun p hp IH I1 z5 z6 z7 z8 z9 f1 t1 => ?_)
    refine xr_iload dX9_order_77 rfl ?_
    refine xr_iload3 dX9_order_79 rfl ?_
    refine xr_icmp_ge 143 dX9_order_80 (by decide) (fun hc => ?_) (fun hc => ?_)
    · have : p = mK S.2.1 ^ n' := by have := nle hc; omega
      subst this
      refine xr_lc1 dX9_order_143 ?_
      refine xr_lstore dX9_order_144 (Nat.le_of_ble_eq_true rfl) ?_
      show xT _ _ _ 146 [_, _, _, _, _, _, _, _, _, _] _ _ _
      refine xr_ic0 dX9_order_146 ?_
      refine xr_istore dX9_order_147 (Nat.le_of_ble_eq_true rfl) ?_
      show xT _ _ _ 149 [_, _, _, _, _, _, _, _, _, _] _ _ _
      exact L3 hb 0 (Nat.zero_le _) I1 _ _ _ f1 t1 (by show 1 ≤ 1000000; decide)
    have hpl := nlt hc
    have IH := IH hpl
    have Lw : ∀ i, i ≤ (S.2.2 w).length → ∀ I2, mfx [85, 88, 97] [13, 14, 16] I I2 → (∀ p', p' < p → I2 97 p' = nI (wkp S.2.1 n' (S.2.2 w) p')) → mRw I2 (wact S.2.1 ((S.2.2 w).take i) (rOfP (mK S.2.1) n' p)) → xT G M_X9_order (xMQ G (xpi fun v I' J' => v = sp_order S (nI w) (nI n') ∧ mIv I' S ∧ mfr I J I' J')) 93 [some (.ref (G.1 77)), some (.int (nI w)), some (.int (nI n')), some (.int (nI (mK S.2.1 ^ n'))), some (.int (nI p)), some (.int (nI i)), z6, z7, z8, z9] [] I2 J := by
      refine x_for (fun i hi IHi I2 f2 t2 r2 => ?_)
      have hok2 : wOk S.2.1 ((S.2.2 w).take i) := fun m hm => wo m (List.mem_of_mem_take hm)
      have hrk2 := wact_ok hM hwhole _ (rOfP (mK S.2.1) n' p) hok2 (rOfP_lt (by omega) n' p)
      have hl2 := wact_len (M := S.2.1) ((S.2.2 w).take i) (rOfP (mK S.2.1) n' p)
      rw [rOfP_len] at hl2
      refine xr_iload dX9_order_93 rfl ?_
      refine xr_aload0 dX9_order_95 rfl ?_
      refine xr_getR dX9_order_96 fk_9_32 lay_77 rfl ?_
      refine xr_iload1 dX9_order_99 rfl ?_
      refine xr_ialdv _ dX9_order_100 lay_84 (by (try simp only [k_0, k_1, k_2, k_3, k_4, k_5, k_8, k_16, k_34, k_40, k_200, k_201, k_256, k_512, nI_add, pk_mul]); first | done | rfl) (by omega) (by decide) (show _ = nI (S.2.2 w).length by rw [f2.1 84 (by decide) (by decide)]; exact w84) ?_
      refine xr_icmp_ge 126 dX9_order_101 (by decide) (fun hc => ?_) (fun hc => ?_)
      · have : i = (S.2.2 w).length := by have := nle hc; omega
        subst this
        rw [List.take_length] at r2 hrk2 hl2
        refine xr_aload0 dX9_order_126 rfl ?_
        refine xr_getR dX9_order_127 fk_9_72 lay_77 rfl ?_
        refine xr_iload dX9_order_130 rfl ?_
        refine xr_aload0 dX9_order_132 rfl ?_
        refine xr_cVi [] dX9_order_133 (xcv_of cf_X9_placeNow ml_9_232 (by decide)) rfl lay_77 rfl rfl rfl (Nat.le_of_ble_eq_true rfl) (c9_placeNow (f2.mach h.2.1 (by decide) (by decide)) r2 (by omega)) (fun v I3 J3 hc3 => ?_)
        obtain ⟨rfl, rfl, rfl⟩ := hc3
        refine xr_iast p dX9_order_136 lay_97 rfl (by omega) (by decide) ?_
        refine xr_iinc dX9_order_137 rfl ii_1 (Nat.le_of_ble_eq_true rfl) ?_
        show xT _ _ _ 140 [_, _, _, _, _, _, _, _, _, _] _ _ _
        refine xr_goto 77 dX9_order_140 (by decide) ?_
        rw [k_1, nI_add]
        refine IH _ _ _ _ _ _ (f2.up _ (by decide) (by decide)) (fun p' hp' => ?_)
        rw [up_same]
        by_cases q : p' = p
        · rw [q, upd_same]; rfl
        · rw [upd_ne _ _ q]; exact t2 p' (by omega)
      · have hil := nlt hc
        have IHi := IHi hil
        refine xr_aload0 dX9_order_104 rfl ?_
        refine xr_aload0 dX9_order_105 rfl ?_
        refine xr_getR dX9_order_106 fk_9_29 lay_77 rfl ?_
        refine xr_bip bi_34 dX9_order_109 ?_
        refine xr_iload1 dX9_order_111 rfl ?_
        refine xr_imul dX9_order_112 ?_
        refine xr_iload dX9_order_113 rfl ?_
        refine xr_iadd dX9_order_115 ?_
        show xT _ _ _ 116 _ _ _ _
        refine xr_ialdv _ dX9_order_116 lay_83 (by (try simp only [k_0, k_1, k_2, k_3, k_4, k_5, k_8, k_16, k_34, k_40, k_200, k_201, k_256, k_512, nI_add, pk_mul]); first | done | rfl) (by omega) (by decide) (show _ = tok (S.2.2 w)[i] by rw [f2.1 83 (by decide) (by decide)]; exact w83 i hil) ?_
        refine xr_cVv [_] dX9_order_117 (xcv_of cf_X9_rewrite ml_9_163 (by decide)) rfl lay_77 rfl rfl rfl (Nat.le_of_ble_eq_true rfl) (c9_rewrite (f2.mach h.2.1 (by decide) (by decide)) hwhole (wo _ (List.getElem_mem hil)) r2 (by omega) hrk2) (fun I3 J3 hc3 => ?_)
        obtain ⟨r3, f3, rfl⟩ := hc3
        refine xr_iinc dX9_order_120 rfl ii_1 (Nat.le_of_ble_eq_true rfl) ?_
        show xT _ _ _ 123 [_, _, _, _, _, _, _, _, _, _] _ _ _
        refine xr_goto 93 dX9_order_123 (by decide) ?_
        rw [k_1, nI_add]
        refine IHi I3 (f2.tr (f3.mono (by simp) (by simp))) (fun p' hp' => by rw [f3.1 97 (by decide) (by decide)]; exact t2 p' hp') ?_
        rw [List.take_succ_eq_append_getElem hil, wact_snoc]
        exact r3
    refine xr_aload0 dX9_order_83 rfl ?_
    refine xr_iload dX9_order_84 rfl ?_
    refine xr_iload2 dX9_order_86 rfl ?_
    refine xr_cVv [_, _] dX9_order_87 (xcv_of cf_X9_rowAt ml_9_229 (by decide)) rfl lay_77 rfl rfl rfl (Nat.le_of_ble_eq_true rfl) (c9_rowAt (f1.mach h.2.1 (by decide) (by decide)) (by omega) (by omega)) (fun I2 J2 hc => ?_)
    obtain ⟨r2, f2, rfl⟩ := hc
    refine xr_ic0 dX9_order_90 ?_
    refine xr_istore dX9_order_91 (Nat.le_of_ble_eq_true rfl) ?_
    show xT _ _ _ 93 [_, _, _, _, _, _, _, _, _, _] _ _ _
    exact Lw 0 (Nat.zero_le _) I2 (f1.tr (f2.mono (by simp) (by simp))) (fun p' hp' => by rw [f2.1 97 (by decide) (by decide)]; exact t1 p' hp') (by simpa [wact] using r2)
  have L1 : ∀ i, i ≤ (S.2.2 w).length → ∀ I1 (z5 z6 z7 z8 z9 : Option Value), mfx [85, 88, 97] [13, 14, 16] I I1 → (∀ k (hk : k < (S.2.2 w).length), k < i → mBack S.2.1 ((S.2.2 w)[k] / 2)) → xT G M_X9_order (xMQ G (xpi fun v I' J' => v = sp_order S (nI w) (nI n') ∧ mIv I' S ∧ mfr I J I' J')) 35 [some (.ref (G.1 77)), some (.int (nI w)), some (.int (nI n')), some (.int (nI (mK S.2.1 ^ n'))), some (.int (nI i)), z5, z6, z7, z8, z9] [] I1 J := by
    refine x_for (fun i hi IH I1 z5 z6 z7 z8 z9 f1 b1 => ?_)
    refine xr_iload dX9_order_35 rfl ?_
    refine xr_aload0 dX9_order_37 rfl ?_
    refine xr_getR dX9_order_38 fk_9_32 lay_77 rfl ?_
    refine xr_iload1 dX9_order_41 rfl ?_
    refine xr_ialdv _ dX9_order_42 lay_84 (by (try simp only [k_0, k_1, k_2, k_3, k_4, k_5, k_8, k_16, k_34, k_40, k_200, k_201, k_256, k_512, nI_add, pk_mul]); first | done | rfl) (by omega) (by decide) (show _ = nI (S.2.2 w).length by rw [f1.1 84 (by decide) (by decide)]; exact w84) ?_
    refine xr_icmp_ge 74 dX9_order_43 (by decide) (fun hc => ?_) (fun hc => ?_)
    · have : i = (S.2.2 w).length := by have := nle hc; omega
      subst this
      refine xr_ic0 dX9_order_74 ?_
      refine xr_istore dX9_order_75 (Nat.le_of_ble_eq_true rfl) ?_
      show xT _ _ _ 77 [_, _, _, _, _, _, _, _, _, _] _ _ _
      refine L2 (fun m hm => ?_) 0 (Nat.zero_le _) I1 _ _ _ _ _ f1 (fun p' hp' => absurd hp' (Nat.not_lt_zero _))
      obtain ⟨k, hk, rfl⟩ := List.getElem_of_mem hm
      exact b1 k hk hk
    have hil := nlt hc
    have IH := IH hil
    have hm16 : (S.2.2 w)[i] < 16 := by
      have := (wo _ (List.getElem_mem hil)).1
      have := hM.2.2.1
      omega
    refine xr_aload0 dX9_order_46 rfl ?_
    refine xr_aload0 dX9_order_47 rfl ?_
    refine xr_getR dX9_order_48 fk_9_29 lay_77 rfl ?_
    refine xr_bip bi_34 dX9_order_51 ?_
    refine xr_iload1 dX9_order_53 rfl ?_
    refine xr_imul dX9_order_54 ?_
    refine xr_iload dX9_order_55 rfl ?_
    refine xr_iadd dX9_order_57 ?_
    show xT _ _ _ 58 _ _ _ _
    refine xr_ialdv _ dX9_order_58 lay_83 (by (try simp only [k_0, k_1, k_2, k_3, k_4, k_5, k_8, k_16, k_34, k_40, k_200, k_201, k_256, k_512, nI_add, pk_mul]); first | done | rfl) (by omega) (by decide) (show _ = tok (S.2.2 w)[i] by rw [f1.1 83 (by decide) (by decide)]; exact w83 i hil) ?_
    refine xr_cVi [_] dX9_order_59 (xcv_of cf_X9_isTokenBack ml_9_235 (by decide)) rfl lay_77 rfl rfl rfl (Nat.le_of_ble_eq_true rfl) (c9_isTokenBack (f1.mach h.2.1 (by decide) (by decide)) hm16) (fun v I2 J2 hc => ?_)
    obtain ⟨rfl, ⟨f, rfl⟩, rfl⟩ := hc
    have f2 := f1.up (k := 85) f (by decide) (by decide)
    refine xr_if_ne 68 dX9_order_62 (by decide) (fun hb => ?_) (fun hb => ?_)
    rotate_left
    · have hb := b2_0.mp hb
      refine xr_bip bi_m6 dX9_order_65 ?_
      refine xr_iret dX9_order_67 rfl rfl ⟨?_, f2.iv h (by decide) (by decide), f2.fr (by decide) rfl⟩
      have : wBk S.2.1 (S.2.2 w) = false := by
        cases hq : wBk S.2.1 (S.2.2 w) with
        | false => rfl
        | true => exact absurd (wBk_iff.mp hq _ (List.getElem_mem hil)) (mB_f.mp hb)
      simp [sp_order, hs, hl, hwh, this]
    have hb : mBack S.2.1 ((S.2.2 w)[i] / 2) := by
      cases hq : mB S.2.1 ((S.2.2 w)[i] / 2) with
      | true => exact mB_iff.mp hq
      | false => rw [hq] at hb; exact absurd rfl hb
    refine xr_iinc dX9_order_68 rfl ii_1 (Nat.le_of_ble_eq_true rfl) ?_
    show xT _ _ _ 71 [_, _, _, _, _, _, _, _, _, _] _ _ _
    refine xr_goto 35 dX9_order_71 (by decide) ?_
    rw [k_1, nI_add]
    refine IH _ _ _ _ _ _ f2 (fun k hk hk2 => ?_)
    rcases Nat.lt_or_ge k i with q | q
    · exact b1 k hk q
    · have : k = i := by omega
      subst this
      exact hb
  refine xr_ic0 dX9_order_32 ?_
  refine xr_istore dX9_order_33 (Nat.le_of_ble_eq_true rfl) ?_
  show xT _ _ _ 35 [_, _, _, _, _, _, _, _, _, _] _ _ _
  exact L1 0 (Nat.zero_le _) I _ _ _ _ _ mfx.rf (fun k _ hk => absurd hk (Nat.not_lt_zero _))
end M34
