section C08
variable {G : xG} {I : xI} {J : xJ}
theorem addSt_ok {M : xMac} (hM : mOk M) {q : Nat × Nat × (Nat → Int32)} {i : Nat} (hg : stB (mK M) q i = true) (hn : mN M < 8) : mOk (addSt M q i) := by
  refine ⟨hM.1, hM.2.1, by show mN M + 1 ≤ 8; omega, fun s x h1 h2 => ?_⟩
  show (if s = mN M then w2n (stW q i x) else mWr M s x) < mK M ∧ ∀ g, (if s = mN M then i2o (stG q i x) else mGo M s x) = some g → g < 8
  have h1 : s < mN M + 1 := h1
  have h2 : x < mK M := h2
  by_cases es : s = mN M
  · rw [if_pos es, if_pos es]
    obtain ⟨b1, b2, b3, b4⟩ := stB_iff.mp hg x h2
    refine ⟨w2n_lt b1 b2, fun g hg => ?_⟩
    obtain ⟨g1, g2⟩ := i2o_some hg
    rw [g1]; exact w2n_lt (by rw [lt_toInt, ti_0] at g2; omega) (by omega)
  · rw [if_neg es, if_neg es]
    exact hM.2.2.2 s x (by omega) h2
theorem addSt_good {M : xMac} {q : Nat × Nat × (Nat → Int32)} {i : Nat} {w : List Nat} (h : wGood M w) : wGood (addSt M q i) w := by
  refine ⟨h.1, h.2.1, fun m hm => ?_⟩
  obtain ⟨o1, o2⟩ := h.2.2 m hm
  refine ⟨by show m / 2 < mN M + 1; omega, fun q1 => ?_⟩
  obtain ⟨T, t1, t2⟩ := o2 q1
  refine ⟨T, t1, fun t ht => ?_⟩
  obtain ⟨u1, u2, u3⟩ := t2 t ht
  have et : t ≠ mN M := by omega
  refine ⟨by show t < mN M + 1; omega, fun a b ha hb => ?_, fun a ha g hg => ?_⟩
  · show (if t = mN M then _ else mWr M t a) ≠ (if t = mN M then _ else mWr M t b)
    rw [if_neg et, if_neg et]; exact u2 a b ha hb
  · have hg : (if t = mN M then _ else mGo M t a) = some g := hg
    rw [if_neg et] at hg
    exact u3 a ha g hg
theorem chSt_ok {M : xMac} (hM : mOk M) {s x y : Nat} {t : Int32} (hy : y < mK M) (ht : -1 ≤ t ∧ t ≤ 7) : mOk (chSt M s x y (i2o t)) := by
  refine ⟨hM.1, hM.2.1, hM.2.2.1, fun s' x' h1 h2 => ?_⟩
  show (if s' = s ∧ x' = x then y else mWr M s' x') < mK M ∧ ∀ g, (if s' = s ∧ x' = x then i2o t else mGo M s' x') = some g → g < 8
  by_cases q : s' = s ∧ x' = x
  · rw [if_pos q, if_pos q]
    refine ⟨hy, fun g hg => ?_⟩
    obtain ⟨g1, g2⟩ := i2o_some hg
    have := w2n_le (n := 7) (by decide) g2 ht.2
    omega
  · rw [if_neg q, if_neg q]
    exact hM.2.2.2 s' x' h1 h2
theorem lost_good {M M' : xMac} (hN : mN M' = mN M) {w : List Nat} (h : wGood M w) : wGood M' (if wLost M' w then [] else w) := by
  split
  · exact wGood.nil
  · rename_i hl
    refine ⟨h.1, h.2.1, fun m hm => ⟨by rw [hN]; exact (h.2.2 m hm).1, fun ho => ?_⟩⟩
    rw [← mB_iff]
    cases hq : mB M' (m / 2) with
    | true => rfl
    | false =>
      exfalso
      apply hl
      unfold wLost
      rw [List.any_eq_true]
      exact ⟨m, hm, by simp [ho, hq]⟩
theorem wOk16 {M : xMac} (hM : mOk M) {w : List Nat} (h : wOk M w) : d16 w := fun m hm => by
  have := (h m hm).1
  have := hM.2.2.1
  omega
theorem wGood.w16 {M : xMac} (hM : mOk M) {w : List Nat} (h : wGood M w) : w16 w := ⟨h.1, wOk16 hM h.2.2⟩
def cSp (I : xI) (J : xJ) (M : xMac) (sp : Nat → List Nat) : Prop := ∀ w, w < 8 → cWd I J (12 + w) (sp w) ∧ wGood M (sp w)
theorem cfx.sp {A : List Nat} {I I' : xI} {J J' : xJ} {M : xMac} {sp : Nat → List Nat} (f : cfx A I J I' J') (h : cSp I J M sp) (hA : ∀ a ∈ A, a < 12 ∨ 19 < a) : cSp I' J' M sp := fun w hw => ⟨f.wd (h w hw).1 (fun q => by have := hA _ q; omega), (h w hw).2⟩
theorem c3_restart {M : xMac} (h : cMb I M) {k : Nat} (hk : 2 ≤ k ∧ k ≤ 4) : xCon G M_X3_restart [.ref (G.1 21), .int (nI k)] I J (xpv fun I' J' => cMc I' (k, 0, M.2.2) ∧ cfx [21, 24, 25, 26] I J I' J') := by
  refine x_ent (by decide) (Nat.le_of_ble_eq_true rfl) rfl ?_
  show xT _ _ _ 0 [_, _] _ _ _
  refine xr_aload0 dX3_restart_0 rfl ?_
  refine xr_iload1 dX3_restart_1 rfl ?_
  refine xr_putI dX3_restart_2 fp_3_31 lay_21 rfl ?_
  refine xr_aload0 dX3_restart_5 rfl ?_
  refine xr_ic0 dX3_restart_6 ?_
  refine xr_putI dX3_restart_7 fp_3_34 lay_21 rfl ?_
  generalize hI1 : va_up (va_up I 21 (upd (I 21) 6 (nI k))) 21 (upd (va_up I 21 (upd (I 21) 6 (nI k)) 21) 7 0) = I1
  have h1 : cMb I1 (k, 0, M.2.2) := ⟨⟨hk.1, hk.2, by show 0 ≤ 8; decide, fun s x hs => absurd hs (Nat.not_lt_zero _)⟩, by rw [← hI1, up_same, upd_ne _ _ (by decide), up_same, upd_same], by rw [← hI1, up_same, upd_same]; rfl, fun s x hs => absurd hs (Nat.not_lt_zero _)⟩
  have f1 : cfx [21, 24, 25, 26] I J I1 J := by rw [← hI1]; exact (cfx.rf.up _ (by simp)).up _ (by simp)
  refine xr_aload0 dX3_restart_10 rfl ?_
  refine xr_cVv [] dX3_restart_11 (xcv_of cf_X3_refresh ml_3_44 (by decide)) rfl lay_21 rfl rfl rfl (Nat.le_of_ble_eq_true rfl) (c3_refresh h1) (fun I2 J2 hc => ?_)
  obtain ⟨m2, e2, rfl⟩ := hc
  refine xr_vret dX3_restart_14 rfl rfl ⟨m2, f1.tr (fun a ha => ⟨e2 a ha, rfl⟩)⟩
theorem c3_rewire {M : xMac} (h : cMb I M) {s x y : Nat} {t : Int32} (hs : s < mN M) (hx : x < mK M) (hy : y < mK M) (ht : -1 ≤ t ∧ t ≤ 7) : xCon G M_X3_rewire [.ref (G.1 21), .int (nI s), .int (nI x), .int (nI y), .int t] I J (xpv fun I' J' => cMc I' (chSt M s x y (i2o t)) ∧ cfx [21, 22, 23, 24, 25, 26] I J I' J') := by
  have hN8 := h.1.2.2.1
  have hK4 := h.1.2.1
  refine x_ent (by decide) (Nat.le_of_ble_eq_true rfl) rfl ?_
  show xT _ _ _ 0 [_, _, _, _, _] _ _ _
  refine xr_aload0 dX3_rewire_0 rfl ?_
  refine xr_getR dX3_rewire_1 fk_3_9 lay_21 rfl ?_
  refine xr_iload1 dX3_rewire_4 rfl ?_
  refine xr_ic4 dX3_rewire_5 ?_
  refine xr_imul dX3_rewire_6 ?_
  refine xr_iload2 dX3_rewire_7 rfl ?_
  refine xr_iadd dX3_rewire_8 ?_
  refine xr_iload3 dX3_rewire_9 rfl ?_
  show xT _ _ _ 10 _ _ _ _
  refine xr_iast (4 * s + x) dX3_rewire_10 lay_22 (by rw [k_4, pk_mul, nI_add, Nat.mul_comm]) (by omega) (by decide) ?_
  refine xr_aload0 dX3_rewire_11 rfl ?_
  refine xr_getR dX3_rewire_12 fk_3_15 lay_21 rfl ?_
  refine xr_iload1 dX3_rewire_15 rfl ?_
  refine xr_ic4 dX3_rewire_16 ?_
  refine xr_imul dX3_rewire_17 ?_
  refine xr_iload2 dX3_rewire_18 rfl ?_
  refine xr_iadd dX3_rewire_19 ?_
  refine xr_iload dX3_rewire_20 rfl ?_
  show xT _ _ _ 22 _ _ _ _
  refine xr_iast (4 * s + x) dX3_rewire_22 lay_23 (by rw [k_4, pk_mul, nI_add, Nat.mul_comm]) (by omega) (by decide) ?_
  generalize hI1 : va_up (va_up I 22 (upd (I 22) (4 * s + x) (nI y))) 23 (upd (va_up I 22 (upd (I 22) (4 * s + x) (nI y)) 23) (4 * s + x) t) = I1
  have f1 : cfx [21, 22, 23, 24, 25, 26] I J I1 J := by rw [← hI1]; exact (cfx.rf.up _ (by simp)).up _ (by simp)
  have e21 : I1 21 = I 21 := by rw [← hI1, va_up_ne _ _ (by decide), va_up_ne _ _ (by decide)]
  have h1 : cMb I1 (chSt M s x y (i2o t)) := by
    refine ⟨chSt_ok h.1 hy ht, by rw [e21]; exact h.2.1, by rw [e21]; exact h.2.2.1, fun s' x' h1 h2 => ?_⟩
    rw [← hI1]
    show _ = nI (if s' = s ∧ x' = x then y else mWr M s' x') ∧ _ = oI (if s' = s ∧ x' = x then i2o t else mGo M s' x')
    rw [up_same, va_up_ne _ _ (show 22 ≠ 23 by decide), up_same, va_up_ne _ _ (show 23 ≠ 22 by decide)]
    have h1 : s' < mN M := h1
    have h2 : x' < mK M := h2
    by_cases q : s' = s ∧ x' = x
    · rw [if_pos q, if_pos q, q.1, q.2, upd_same, upd_same]
      exact ⟨rfl, (oI_i2o ht.1).symm⟩
    · rw [if_neg q, if_neg q, upd_ne _ _ (by omega), upd_ne _ _ (by omega)]
      exact h.2.2.2 s' x' h1 h2
  refine xr_aload0 dX3_rewire_23 rfl ?_
  refine xr_cVv [] dX3_rewire_24 (xcv_of cf_X3_refresh ml_3_44 (by decide)) rfl lay_21 rfl rfl rfl (Nat.le_of_ble_eq_true rfl) (c3_refresh h1) (fun I2 J2 hc => ?_)
  obtain ⟨m2, e2, rfl⟩ := hc
  refine xr_vret dX3_rewire_27 rfl rfl ⟨m2, f1.tr (fun a ha => ⟨e2 a (fun q => ha (by simp at q ⊢; omega)), rfl⟩)⟩
theorem st_rd {q : Nat × Nat × (Nat → Int32)} {i x : Nat} (h : i + 2 * x + 1 < q.2.1) : stW q i x = q.2.2 (i + 2 * x) ∧ stG q i x = q.2.2 (i + 2 * x + 1) := by
  unfold stW stG
  rw [if_pos h, if_pos h]
  exact ⟨rfl, rfl⟩
theorem st_no {q : Nat × Nat × (Nat → Int32)} {i x : Nat} (h : ¬ i + 2 * x + 1 < q.2.1) : stW q i x = nI x ∧ stG q i x = -1 := by
  unfold stW stG
  rw [if_neg h, if_neg h]
  exact ⟨rfl, rfl⟩
theorem c3_canRead {M : xMac} (h : cMb I M) {p : Nat} (hp : isSt p) {q : Nat × Nat × (Nat → Int32)} (hq : cS0 I p q) {i : Nat} (hi : i < 2 ^ 31) : xCon G M_X3_canRead [.ref (G.1 21), .ref (G.1 p), .int (nI i)] I J (xpi fun v I' J' => v = b2 (stB (mK M) q i) ∧ I = I' ∧ J = J') := by
  obtain ⟨q3, q40, -, qn, qf⟩ := hq
  have hK4 := h.1.2.1
  have no : ∀ x, x < mK M → ¬ stOk (mK M) q i x → stB (mK M) q i = false := fun x hx hn => by
    cases hb : stB (mK M) q i with
    | false => rfl
    | true => exact absurd (stB_iff.mp hb x hx) hn
  have L : ∀ x, x ≤ mK M → ∀ z4 : Option Value, (∀ x', x' < x → stOk (mK M) q i x') → xT G M_X3_canRead (xMQ G (xpi fun v I' J' => v = b2 (stB (mK M) q i) ∧ I = I' ∧ J = J')) 2 [some (.ref (G.1 21)), some (.ref (G.1 p)), some (.int (nI i)), some (.int (nI x)), z4] [] I J := by
    refine x_for (fun x hx IH z4 ok => ?_)
    refine xr_iload3 dX3_canRead_2 rfl ?_
    refine xr_aload0 dX3_canRead_3 rfl ?_
    refine xr_getIv dX3_canRead_4 fk_3_31 lay_21 rfl h.2.1 ?_
    refine xr_icmp_ge 63 dX3_canRead_7 (by decide) (fun hc => ?_) (fun hc => ?_)
    · have : x = mK M := by have := nle hc; omega
      subst this
      refine xr_ic1 dX3_canRead_63 ?_
      refine xr_zret dX3_canRead_64 rfl rfl (by simp) ⟨by rw [stB_iff.mpr ok]; rfl, rfl, rfl⟩
    have hxl := nlt hc
    have IH := IH hxl
    have K57 : ∀ z4 : Option Value, stOk (mK M) q i x → xT G M_X3_canRead (xMQ G (xpi fun v I' J' => v = b2 (stB (mK M) q i) ∧ I = I' ∧ J = J')) 57 [some (.ref (G.1 21)), some (.ref (G.1 p)), some (.int (nI i)), some (.int (nI x)), z4] [] I J := by
      intro z4 hx'
      refine xr_iinc dX3_canRead_57 rfl ii_1 (Nat.le_of_ble_eq_true rfl) ?_
      show xT _ _ _ 60 [_, _, _, _, _] _ _ _
      refine xr_goto 2 dX3_canRead_60 (by decide) ?_
      rw [k_1, nI_add]
      refine IH _ (fun x' hx2 => ?_)
      rcases Nat.lt_or_ge x' x with g | g
      · exact ok x' g
      · have : x' = x := by omega
        subst this
        exact hx'
    have K55 : ∀ z4 : Option Value, ¬ stOk (mK M) q i x → xT G M_X3_canRead (xMQ G (xpi fun v I' J' => v = b2 (stB (mK M) q i) ∧ I = I' ∧ J = J')) 55 [some (.ref (G.1 21)), some (.ref (G.1 p)), some (.int (nI i)), some (.int (nI x)), z4] [] I J := by
      intro z4 hn
      refine xr_ic0 dX3_canRead_55 ?_
      refine xr_zret dX3_canRead_56 rfl rfl (by simp) ⟨by rw [no x hxl hn]; rfl, rfl, rfl⟩
    refine xr_aload1 dX3_canRead_10 rfl ?_
    refine xr_iload2 dX3_canRead_11 rfl ?_
    refine xr_iload3 dX3_canRead_12 rfl ?_
    refine xr_cVi [_, _] dX3_canRead_13 (xcv_of cf_X5_hasPair ml_3_47 (by decide)) rfl hp.1 rfl rfl rfl (Nat.le_of_ble_eq_true rfl) (c5_hasPair hp q40 qn hi (by omega)) (fun v I1 J1 hc1 => ?_)
    obtain ⟨rfl, rfl, rfl⟩ := hc1
    refine xr_if_eq 57 dX3_canRead_16 (by decide) (fun hb => ?_) (fun hb => ?_)
    · have hb := b2d hb
      obtain ⟨e1, e2⟩ := st_no (q := q) hb
      refine K57 _ ?_
      unfold stOk
      rw [e1, e2, nI_toInt (by omega), ti_m1]
      omega
    have hb := b2d' hb
    obtain ⟨e1, e2⟩ := st_rd (q := q) hb
    have v1 := qf (i + 2 * x) (by omega)
    have v2 := qf (i + 2 * x + 1) (by omega)
    refine xr_iload2 dX3_canRead_19 rfl ?_
    refine xr_ic2 dX3_canRead_20 ?_
    refine xr_iload3 dX3_canRead_21 rfl ?_
    refine xr_imul dX3_canRead_22 ?_
    refine xr_iadd dX3_canRead_23 ?_
    rw [k_2, pk_mul, nI_add]
    refine xr_istore dX3_canRead_24 (Nat.le_of_ble_eq_true rfl) ?_
    show xT _ _ _ 26 [_, _, _, _, _] _ _ _
    refine xr_aload0 dX3_canRead_26 rfl ?_
    refine xr_aload1 dX3_canRead_27 rfl ?_
    refine xr_getR dX3_canRead_28 fk_3_53 hp.1 rfl ?_
    refine xr_iload dX3_canRead_31 rfl ?_
    refine xr_ialdv (i + 2 * x) dX3_canRead_33 hp.2 rfl (by omega) (by first | decide | omega) v1 ?_
    refine xr_cVi [_] dX3_canRead_34 (xcv_of cf_X3_isLetter ml_3_56 (by decide)) rfl lay_21 rfl rfl rfl (Nat.le_of_ble_eq_true rfl) (c3_isLetter h _) (fun v I1 J1 hc1 => ?_)
    obtain ⟨rfl, rfl, rfl⟩ := hc1
    refine xr_if_eq 55 dX3_canRead_37 (by decide) (fun h1 => ?_) (fun h1 => ?_)
    · have h1 := is_n h1
      refine K55 _ (fun hok => ?_)
      obtain ⟨a1, a2, -, -⟩ := hok
      rw [e1] at a1 a2
      rw [ix_in (by omega) (by omega)] at h1
      cases h1
    obtain ⟨y, h1⟩ := is_s h1
    obtain ⟨hy, ey⟩ := ix_some h1
    refine xr_aload1 dX3_canRead_40 rfl ?_
    refine xr_getR dX3_canRead_41 fk_3_53 hp.1 rfl ?_
    refine xr_iload dX3_canRead_44 rfl ?_
    refine xr_ic1 dX3_canRead_46 ?_
    refine xr_iadd dX3_canRead_47 ?_
    refine xr_ialdv (i + 2 * x + 1) dX3_canRead_48 hp.2 (by rw [k_1, nI_add]) (by omega) (by first | decide | omega) v2 ?_
    refine xr_cG [_] dX3_canRead_49 rfl (by decide) rfl rfl (Nat.le_of_ble_eq_true rfl) (c8_isGoal _) (fun v I1 J1 hc1 => ?_)
    obtain ⟨rfl, rfl, rfl⟩ := hc1
    refine xr_if_ne 57 dX3_canRead_52 (by decide) (fun h2 => ?_) (fun h2 => ?_)
    · have h2 := b2d' h2
      rw [le_toInt, le_toInt, ti_m1, ti_7] at h2
      refine K57 _ ?_
      unfold stOk
      rw [e1, e2, ey, nI_toInt (by omega)]
      omega
    · have h2 := b2d h2
      rw [le_toInt, le_toInt, ti_m1, ti_7] at h2
      refine K55 _ (fun hok => ?_)
      obtain ⟨-, -, a1, a2⟩ := hok
      rw [e2] at a1 a2
      exact h2 ⟨a1, a2⟩
  refine x_ent (by decide) (Nat.le_of_ble_eq_true rfl) rfl ?_
  show xT _ _ _ 0 [_, _, _, _, _] _ _ _
  refine xr_ic0 dX3_canRead_0 ?_
  refine xr_istore3 dX3_canRead_1 (Nat.le_of_ble_eq_true rfl) ?_
  show xT _ _ _ 2 [_, _, _, _, _] _ _ _
  exact L 0 (Nat.zero_le _) _ (fun x' hx' => absurd hx' (Nat.not_lt_zero _))
theorem c3_read {M : xMac} (h : cMb I M) {p : Nat} (hp : isSt p) (hpl : p < 12) {q : Nat × Nat × (Nat → Int32)} (hq : cS0 I p q) {i : Nat} (hi : i < 2 ^ 31) (hg : stB (mK M) q i = true) (hn : mN M < 8) : xCon G M_X3_read [.ref (G.1 21), .ref (G.1 p), .int (nI i)] I J (xpv fun I' J' => cMc I' (addSt M q i) ∧ cfx [21, 22, 23, 24, 25, 26] I J I' J') := by
  obtain ⟨q3, q40, -, qn, qf⟩ := hq
  have hK4 := h.1.2.1
  have L : ∀ x, x ≤ mK M → ∀ I1 (z4 z5 : Option Value), cfx [22, 23] I J I1 J → (∀ j, j < 4 * mN M → I1 22 j = I 22 j ∧ I1 23 j = I 23 j) → (∀ x', x' < x → I1 22 (4 * mN M + x') = stW q i x' ∧ I1 23 (4 * mN M + x') = stG q i x') → xT G M_X3_read (xMQ G (xpv fun I' J' => cMc I' (addSt M q i) ∧ cfx [21, 22, 23, 24, 25, 26] I J I' J')) 2 [some (.ref (G.1 21)), some (.ref (G.1 p)), some (.int (nI i)), some (.int (nI x)), z4, z5] [] I1 J := by
    refine x_for (fun x hx IH I1 z4 z5 f1 o1 d1 => ?_)
    have e21 : I1 21 = I 21 := (f1 21 (by simp)).1
    have eK : I1 21 6 = nI (mK M) := by rw [e21]; exact h.2.1
    have eN : I1 21 7 = nI (mN M) := by rw [e21]; exact h.2.2.1
    refine xr_iload3 dX3_read_2 rfl ?_
    refine xr_aload0 dX3_read_3 rfl ?_
    refine xr_getIv dX3_read_4 fk_3_31 lay_21 rfl eK ?_
    refine xr_icmp_ge 88 dX3_read_7 (by decide) (fun hc => ?_) (fun hc => ?_)
    · have : x = mK M := by have := nle hc; omega
      subst this
      refine xr_aload0 dX3_read_88 rfl ?_
      refine xr_dup dX3_read_89 rfl ?_
      refine xr_getIv dX3_read_90 fk_3_34 lay_21 rfl eN ?_
      refine xr_ic1 dX3_read_93 ?_
      refine xr_iadd dX3_read_94 ?_
      rw [k_1, nI_add]
      refine xr_putI dX3_read_95 fp_3_34 lay_21 rfl ?_
      generalize hI2 : va_up I1 21 (upd (I1 21) 7 (nI (mN M + 1))) = I2
      have f2 : cfx [21, 22, 23, 24, 25, 26] I J I2 J := by rw [← hI2]; exact (f1.mono (by simp)).up _ (by simp)
      have h2 : cMb I2 (addSt M q i) := by
        refine ⟨addSt_ok h.1 hg hn, ?_, ?_, fun s x h1 h2 => ?_⟩
        · rw [← hI2, up_same, upd_ne _ _ (by decide)]; exact eK
        · rw [← hI2, up_same, upd_same]; rfl
        · show _ = nI (if s = mN M then w2n (stW q i x) else mWr M s x) ∧ _ = oI (if s = mN M then i2o (stG q i x) else mGo M s x)
          have h1 : s < mN M + 1 := h1
          have h2 : x < mK M := h2
          rw [← hI2, va_up_ne _ _ (show 22 ≠ 21 by decide), va_up_ne _ _ (show 23 ≠ 21 by decide)]
          by_cases es : s = mN M
          · rw [if_pos es, if_pos es, es, (d1 x h2).1, (d1 x h2).2]
            obtain ⟨b1, b2, b3, b4⟩ := stB_iff.mp hg x h2
            exact ⟨(nI_w2n (by rw [lt_toInt, ti_0]; omega)).symm, (oI_i2o (by rw [le_toInt, ti_m1]; omega)).symm⟩
          · rw [if_neg es, if_neg es, (o1 _ (by omega)).1, (o1 _ (by omega)).2]
            exact h.2.2.2 s x (by omega) h2
      refine xr_aload0 dX3_read_98 rfl ?_
      refine xr_cVv [] dX3_read_99 (xcv_of cf_X3_refresh ml_3_44 (by decide)) rfl lay_21 rfl rfl rfl (Nat.le_of_ble_eq_true rfl) (c3_refresh h2) (fun I3 J3 hc3 => ?_)
      obtain ⟨m3, e3, rfl⟩ := hc3
      refine xr_vret dX3_read_102 rfl rfl ⟨m3, f2.tr (fun a ha => ⟨e3 a (fun q => ha (by simp at q ⊢; omega)), rfl⟩)⟩
    have hxl := nlt hc
    have IH := IH hxl
    have ep : I1 p = I p := (f1 p (by simp; omega)).1
    have ep1 : I1 (p + 1) = I (p + 1) := (f1 (p + 1) (by simp; omega)).1
    refine xr_aload1 dX3_read_10 rfl ?_
    refine xr_iload2 dX3_read_11 rfl ?_
    refine xr_iload3 dX3_read_12 rfl ?_
    refine xr_cVi [_, _] dX3_read_13 (xcv_of cf_X5_hasPair ml_3_47 (by decide)) rfl hp.1 rfl rfl rfl (Nat.le_of_ble_eq_true rfl) (c5_hasPair hp q40 (by rw [ep]; exact qn) hi (by omega)) (fun v I2 J2 hc1 => ?_)
    obtain ⟨rfl, rfl, rfl⟩ := hc1
    have hidx : nI (mN M) * 4 + nI x = nI (4 * mN M + x) := by rw [k_4, pk_mul, nI_add, Nat.mul_comm]
    refine xr_istore dX3_read_16 (Nat.le_of_ble_eq_true rfl) ?_
    show xT _ _ _ 18 [_, _, _, _, _, _] _ _ _
    refine xr_aload0 dX3_read_18 rfl ?_
    refine xr_getIv dX3_read_19 fk_3_34 lay_21 rfl eN ?_
    refine xr_ic4 dX3_read_22 ?_
    refine xr_imul dX3_read_23 ?_
    refine xr_iload3 dX3_read_24 rfl ?_
    refine xr_iadd dX3_read_25 ?_
    rw [hidx]
    refine xr_istore dX3_read_26 (Nat.le_of_ble_eq_true rfl) ?_
    show xT _ _ _ 28 [_, _, _, _, _, _] _ _ _
    have K81 : ∀ I2 (z4 : Int32), cfx [22, 23] I J I2 J → I2 22 = upd (I1 22) (4 * mN M + x) (stW q i x) → I2 23 = I1 23 → xT G M_X3_read (xMQ G (xpv fun I' J' => cMc I' (addSt M q i) ∧ cfx [21, 22, 23, 24, 25, 26] I J I' J')) 81 [some (.ref (G.1 21)), some (.ref (G.1 p)), some (.int (nI i)), some (.int (nI x)), some (.int z4), some (.int (nI (4 * mN M + x)))] [.int (stG q i x), .int (nI (4 * mN M + x)), .ref (G.1 23)] I2 J := by
      intro I2 z4 f2 e22 e23
      refine xr_iast (4 * mN M + x) dX3_read_81 lay_23 rfl (by omega) (by decide) ?_
      refine xr_iinc dX3_read_82 rfl ii_1 (Nat.le_of_ble_eq_true rfl) ?_
      show xT _ _ _ 85 [_, _, _, _, _, _] _ _ _
      refine xr_goto 2 dX3_read_85 (by decide) ?_
      rw [k_1, nI_add]
      refine IH _ _ _ (f2.up _ (by simp)) (fun j hj => ?_) (fun x' hx' => ?_)
      · rw [up_same, va_up_ne _ _ (by decide), e22, e23, upd_ne _ _ (by omega), upd_ne _ _ (by omega)]
        exact o1 j hj
      · rw [up_same, va_up_ne _ _ (by decide), e22, e23]
        by_cases e : x' = x
        · subst e; rw [upd_same, upd_same]; exact ⟨rfl, rfl⟩
        · rw [upd_ne _ _ (by omega), upd_ne _ _ (by omega)]
          exact d1 x' (by omega)
    by_cases hb : i + 2 * x + 1 < q.2.1
    · obtain ⟨e1, e2⟩ := st_rd hb
      rw [decide_eq_true hb]
      have v1 : I1 (p + 1) (i + 2 * x) = stW q i x := by rw [ep1, e1]; exact qf _ (by omega)
      have K54 : ∀ I2, cfx [22, 23] I J I2 J → I2 22 = upd (I1 22) (4 * mN M + x) (stW q i x) → I2 23 = I1 23 → xT G M_X3_read (xMQ G (xpv fun I' J' => cMc I' (addSt M q i) ∧ cfx [21, 22, 23, 24, 25, 26] I J I' J')) 54 [some (.ref (G.1 21)), some (.ref (G.1 p)), some (.int (nI i)), some (.int (nI x)), some (.int (b2 true)), some (.int (nI (4 * mN M + x)))] [] I2 J := by
        intro I2 f2 e22 e23
        have v2 : I2 (p + 1) (i + 2 * x + 1) = stG q i x := by rw [(f2 (p + 1) (by simp; omega)).1, e2]; exact qf _ (by omega)
        refine xr_aload0 dX3_read_54 rfl ?_
        refine xr_getR dX3_read_55 fk_3_15 lay_21 rfl ?_
        refine xr_iload dX3_read_58 rfl ?_
        refine xr_iload dX3_read_60 rfl ?_
        refine xr_if_eq 80 dX3_read_62 (by decide) (fun hz => ?_) (fun hz => ?_)
        · exact absurd hz (by decide)
        refine xr_aload1 dX3_read_65 rfl ?_
        refine xr_getR dX3_read_66 fk_3_53 hp.1 rfl ?_
        refine xr_iload2 dX3_read_69 rfl ?_
        refine xr_ic2 dX3_read_70 ?_
        refine xr_iload3 dX3_read_71 rfl ?_
        refine xr_imul dX3_read_72 ?_
        refine xr_iadd dX3_read_73 ?_
        refine xr_ic1 dX3_read_74 ?_
        show xT _ _ _ 75 _ _ _ _
        refine xr_iadd dX3_read_75 ?_
        refine xr_ialdv (i + 2 * x + 1) dX3_read_76 hp.2 (by rw [k_2, pk_mul, nI_add, k_1, nI_add]) (by omega) (by first | decide | omega) v2 ?_
        refine xr_goto 81 dX3_read_77 (by decide) ?_
        exact K81 I2 _ f2 e22 e23
      refine xr_aload0 dX3_read_28 rfl ?_
      refine xr_getR dX3_read_29 fk_3_9 lay_21 rfl ?_
      refine xr_iload dX3_read_32 rfl ?_
      refine xr_iload dX3_read_34 rfl ?_
      refine xr_if_eq 52 dX3_read_36 (by decide) (fun hz => ?_) (fun hz => ?_)
      · exact absurd hz (by decide)
      refine xr_aload1 dX3_read_39 rfl ?_
      refine xr_getR dX3_read_40 fk_3_53 hp.1 rfl ?_
      refine xr_iload2 dX3_read_43 rfl ?_
      refine xr_ic2 dX3_read_44 ?_
      refine xr_iload3 dX3_read_45 rfl ?_
      refine xr_imul dX3_read_46 ?_
      refine xr_iadd dX3_read_47 ?_
      refine xr_ialdv (i + 2 * x) dX3_read_48 hp.2 (by rw [k_2, pk_mul, nI_add]) (by omega) (by first | decide | omega) v1 ?_
      show xT _ _ _ 49 _ _ _ _
      refine xr_goto 53 dX3_read_49 (by decide) ?_
      refine xr_iast (4 * mN M + x) dX3_read_53 lay_22 rfl (by omega) (by decide) ?_
      exact K54 _ (f1.up _ (by simp)) (by rw [up_same]) (by rw [va_up_ne _ _ (by decide)])
    · obtain ⟨e1, e2⟩ := st_no hb
      rw [decide_eq_false hb]
      refine xr_aload0 dX3_read_28 rfl ?_
      refine xr_getR dX3_read_29 fk_3_9 lay_21 rfl ?_
      refine xr_iload dX3_read_32 rfl ?_
      refine xr_iload dX3_read_34 rfl ?_
      refine xr_if_eq 52 dX3_read_36 (by decide) (fun hz => ?_) (fun hz => ?_)
      rotate_left
      · exact absurd rfl hz
      refine xr_iload3 dX3_read_52 rfl ?_
      refine xr_iast (4 * mN M + x) dX3_read_53 lay_22 rfl (by omega) (by decide) ?_
      refine xr_aload0 dX3_read_54 rfl ?_
      refine xr_getR dX3_read_55 fk_3_15 lay_21 rfl ?_
      refine xr_iload dX3_read_58 rfl ?_
      refine xr_iload dX3_read_60 rfl ?_
      refine xr_if_eq 80 dX3_read_62 (by decide) (fun hz => ?_) (fun hz => ?_)
      rotate_left
      · exact absurd rfl hz
      refine xr_icm1 dX3_read_80 ?_
      rw [← e2]
      exact K81 _ _ (f1.up _ (by simp)) (by rw [up_same, e1]) (by rw [va_up_ne _ _ (by decide)])
  refine x_ent (by decide) (Nat.le_of_ble_eq_true rfl) rfl ?_
  show xT _ _ _ 0 [_, _, _, _, _, _] _ _ _
  refine xr_ic0 dX3_read_0 ?_
  refine xr_istore3 dX3_read_1 (Nat.le_of_ble_eq_true rfl) ?_
  show xT _ _ _ 2 [_, _, _, _, _, _] _ _ _
  exact L 0 (Nat.zero_le _) I _ _ cfx.rf (fun j hj => ⟨rfl, rfl⟩) (fun x' hx' => absurd hx' (Nat.not_lt_zero _))
end C08
