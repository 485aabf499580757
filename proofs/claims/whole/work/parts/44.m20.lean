section M20
variable {G : xG} {I : xI} {J : xJ}
theorem c9_rowsOf {M : xMac} (h : mMach I M) (v : Int32) {most : Nat} (hm : most ≤ 256) (hm1 : 1 ≤ most) : xCon G M_X9_rowsOf [.ref (G.1 77), .int v, .int (nI most)] I J (xpi fun r I' J' => r = (match lvl (mK M) v most with
    | none => -1
    | some n => nI (mK M ^ n)) ∧ I = I' ∧ J = J') := by
  have hK2 := h.1.1
  have hK4 := h.1.2.1
  refine x_ent (by decide) (Nat.le_of_ble_eq_true rfl) rfl ?_
  show xT _ _ _ 0 [_, _, _, _, _] _ _ _
  refine xr_iload1 dX9_rowsOf_0 rfl ?_
  refine xr_if_ge 6 dX9_rowsOf_1 (by decide) (fun hv => ?_) (fun hv => ?_)
  rotate_left
  · have hv : v.toInt < 0 := by rw [le_toInt, ti_0] at hv; omega
    refine xr_icm1 dX9_rowsOf_4 ?_
    refine xr_iret dX9_rowsOf_5 rfl rfl ⟨by rw [lvl_none (Or.inl hv)], rfl, rfl⟩
  have hv : 0 ≤ v.toInt := by rw [le_toInt, ti_0] at hv; exact hv
  have hvv : v = nI (w2n v) := (nI_w2n (by rw [lt_toInt, ti_0]; omega)).symm
  have hv31 : w2n v < 2 ^ 31 := by have := Int32.toInt_lt v; unfold w2n; omega
  have fin : ∀ k (z4 : Option Value), k ≤ w2n v → mK M ^ k ≤ 4 * most → (most < mK M ^ k ∨ k = w2n v) → xT G M_X9_rowsOf (xMQ G (xpi fun r I' J' => r = (match lvl (mK M) v most with | none => -1 | some n => nI (mK M ^ n)) ∧ I = I' ∧ J = J')) 35 [some (.ref (G.1 77)), some (.int v), some (.int (nI most)), some (.int (nI (mK M ^ k))), z4] [] I J := by
    intro k z4 hk hb hor
    refine xr_iload3 dX9_rowsOf_35 rfl ?_
    refine xr_iload2 dX9_rowsOf_36 rfl ?_
    refine xr_icmp_gt 44 dX9_rowsOf_37 (by decide) (fun hgt => ?_) (fun hgt => ?_)
    · have hgt : most < mK M ^ k := nltl hgt
      have hn : lvl (mK M) v most = none := lvl_none (Or.inr (Nat.lt_of_lt_of_le hgt (Nat.pow_le_pow_right (by omega) hk)))
      refine xr_icm1 dX9_rowsOf_44 ?_
      refine xr_iret dX9_rowsOf_45 rfl rfl ⟨by rw [hn], rfl, rfl⟩
    · have hgt : mK M ^ k ≤ most := nnlt hgt
      have hkn : k = w2n v := hor.resolve_left (by omega)
      subst hkn
      refine xr_iload3 dX9_rowsOf_40 rfl ?_
      refine xr_goto 45 dX9_rowsOf_41 (by decide) ?_
      refine xr_iret dX9_rowsOf_45 rfl rfl ⟨by rw [lvl_pos hv hgt], rfl, rfl⟩
  have L : ∀ d k, d = 300 - k → k ≤ w2n v → k ≤ 257 → mK M ^ k ≤ 4 * most → (k ≤ most + 1) → (0 < k → mK M ^ (k - 1) ≤ most) → xT G M_X9_rowsOf (xMQ G (xpi fun r I' J' => r = (match lvl (mK M) v most with | none => -1 | some n => nI (mK M ^ n)) ∧ I = I' ∧ J = J')) 11 [some (.ref (G.1 77)), some (.int v), some (.int (nI most)), some (.int (nI (mK M ^ k))), some (.int (nI k))] [] I J := by
    intro d
    induction d using x_lt with
    | h d IH =>
    intro k hd hk h257 hb hkm hpr
    refine xr_iload dX9_rowsOf_11 rfl ?_
    refine xr_iload1 dX9_rowsOf_13 rfl ?_
    rw [hvv]
    refine xr_icmp_ge 35 dX9_rowsOf_14 (by decide) (fun hc => ?_) (fun hc => ?_)
    · have hc := nle hc
      rw [← hvv]
      exact fin k _ hk hb (Or.inr (by omega))
    · have hc := nlt hc
      rw [← hvv]
      refine xr_iload3 dX9_rowsOf_17 rfl ?_
      refine xr_iload2 dX9_rowsOf_18 rfl ?_
      refine xr_icmp_gt 35 dX9_rowsOf_19 (by decide) (fun hgt => ?_) (fun hgt => ?_)
      · have hgt : most < mK M ^ k := nltl hgt
        exact fin k _ hk hb (Or.inl hgt)
      · have hgt : mK M ^ k ≤ most := nnlt hgt
        have hkb := pow_big hK2 k
        refine xr_iload3 dX9_rowsOf_22 rfl ?_
        refine xr_aload0 dX9_rowsOf_23 rfl ?_
        refine xr_getIv dX9_rowsOf_24 fk_9_19 lay_77 rfl h.2.1 ?_
        refine xr_imul dX9_rowsOf_27 ?_
        refine xr_istore3 dX9_rowsOf_28 (Nat.le_of_ble_eq_true rfl) ?_
        show xT _ _ _ 29 [_, _, _, _, _] _ _ _
        refine xr_iinc dX9_rowsOf_29 rfl ii_1 (Nat.le_of_ble_eq_true rfl) ?_
        show xT _ _ _ 32 [_, _, _, _, _] _ _ _
        refine xr_goto 11 dX9_rowsOf_32 (by decide) ?_
        rw [pk_mul, k_1, nI_add, ← Nat.pow_succ]
        refine IH (300 - (k + 1)) (by omega) (k + 1) rfl (by omega) (by omega) ?_ (by omega) (fun _ => hgt)
        rw [Nat.pow_succ, Nat.mul_comm]
        exact Nat.mul_le_mul hK4 hgt
  refine xr_ic1 dX9_rowsOf_6 ?_
  refine xr_istore3 dX9_rowsOf_7 (Nat.le_of_ble_eq_true rfl) ?_
  show xT _ _ _ 8 [_, _, _, _, _] _ _ _
  refine xr_ic0 dX9_rowsOf_8 ?_
  refine xr_istore dX9_rowsOf_9 (Nat.le_of_ble_eq_true rfl) ?_
  show xT _ _ _ 11 [_, _, _, _, _] _ _ _
  have := L 300 0 rfl (Nat.zero_le _) (by omega) (by simp; omega) (by omega) (fun q => by omega)
  rw [Nat.pow_zero] at this
  exact this
theorem remK {K N : Nat} (h : N < 2 ^ 31) (hK : 0 < K) (hK4 : K ≤ 4) : nI N - nI N / nI K * nI K = nI (N % K) := pk_rem h hK (by omega)
theorem divK {K N : Nat} (h : N < 2 ^ 31) (hK : 0 < K) (hK4 : K ≤ 4) : nI N / nI K = nI (N / K) := pk_div h hK (by omega)
theorem c9_rowAt {M : xMac} (h : mMach I M) {p n : Nat} (hp : p < 2 ^ 31) (hn : n ≤ 16) : xCon G M_X9_rowAt [.ref (G.1 77), .int (nI p), .int (nI n)] I J (xpv fun I' J' => mRw I' (rOfP (mK M) n p) ∧ mfx [88] [16] I I' ∧ J = J') := by
  have hK2 := h.1.1
  have hK4 := h.1.2.1
  have hne : ¬ nI (mK M) = 0 := nI_ne0 (by omega) (by omega)
  have L : ∀ i, i ≤ n → ∀ (q : Nat) (suf : List Nat) I1, q ≤ p → mfx [88] [16] I I1 → I1 77 16 = nI n → suf.length = n - i → rOfP (mK M) n p = rOfP (mK M) i q ++ suf → lrep (I1 88) i suf nI → xT G M_X9_rowAt (xMQ G (xpv fun I' J' => mRw I' (rOfP (mK M) n p) ∧ mfx [88] [16] I I' ∧ J = J')) 12 [some (.ref (G.1 77)), some (.int (nI p)), some (.int (nI n)), some (.int (nI q)), some (.int (nI i - 1))] [] I1 J := by
    intro i
    induction i with
    | zero =>
      intro _ q suf I1 hq f1 h16 hs he hr
      refine xr_iload dX9_rowAt_12 rfl ?_
      refine xr_if_lt 43 dX9_rowAt_14 (by decide) (fun hc => ?_) (fun hc => ?_)
      rotate_left
      · exact absurd (by decide) hc
      refine xr_vret dX9_rowAt_43 rfl rfl ⟨?_, f1, rfl⟩
      rw [he]
      exact ⟨by rw [h16]; simp [rOfP, hs], hr⟩
    | succ i IH =>
      intro hi q suf I1 hq f1 h16 hs he hr
      have hK1 : I1 77 3 = nI (mK M) := (f1.2 3 (by decide)).trans h.2.1
      refine xr_iload dX9_rowAt_12 rfl ?_
      rw [nI_pred]
      refine xr_if_lt 43 dX9_rowAt_14 (by decide) (fun hc => ?_) (fun hc => ?_)
      · exact absurd hc (nI_pos (by omega))
      refine xr_aload0 dX9_rowAt_17 rfl ?_
      refine xr_getR dX9_rowAt_18 fk_9_45 lay_77 rfl ?_
      refine xr_iload dX9_rowAt_21 rfl ?_
      refine xr_iload3 dX9_rowAt_23 rfl ?_
      refine xr_aload0 dX9_rowAt_24 rfl ?_
      refine xr_getIv dX9_rowAt_25 fk_9_19 lay_77 rfl hK1 ?_
      refine xr_irem dX9_rowAt_28 hne ?_
      rw [remK (by omega) (by omega) hK4]
      refine xr_iast _ dX9_rowAt_29 lay_88 rfl (by omega) (by decide) ?_
      have hK2' : (va_up I1 88 (upd (I1 88) i (nI (q % mK M)))) 77 3 = nI (mK M) := by rw [va_up_ne _ _ (by decide)]; exact hK1
      refine xr_iload3 dX9_rowAt_30 rfl ?_
      refine xr_aload0 dX9_rowAt_31 rfl ?_
      refine xr_getIv dX9_rowAt_32 fk_9_19 lay_77 rfl hK2' ?_
      refine xr_idiv dX9_rowAt_35 hne ?_
      rw [divK (by omega) (by omega) hK4]
      refine xr_istore3 dX9_rowAt_36 (Nat.le_of_ble_eq_true rfl) ?_
      show xT _ _ _ 37 [_, _, _, _, _] _ _ _
      refine xr_iinc dX9_rowAt_37 rfl ii_m1 (Nat.le_of_ble_eq_true rfl) ?_
      show xT _ _ _ 40 [_, _, _, _, _] _ _ _
      refine xr_goto 12 dX9_rowAt_40 (by decide) ?_
      rw [show nI i + -1 = nI i - 1 by grind]
      refine IH (by omega) (q / mK M) (q % mK M :: suf) _ (Nat.le_trans (Nat.div_le_self _ _) hq) (f1.up _ (by decide) (by decide)) (by rw [va_up_ne _ _ (by decide)]; exact h16) (by simp; omega) ?_ ?_
      · rw [he]; simp [rOfP]
      · rw [up_same]
        intro k hk
        cases k with
        | zero => rw [Nat.add_zero, upd_same]; rfl
        | succ k =>
          rw [upd_ne _ _ (by omega), show i + (k + 1) = i + 1 + k by omega]
          have := hr k (by simpa using hk)
          rw [this]; rfl
  refine x_ent (by decide) (Nat.le_of_ble_eq_true rfl) rfl ?_
  show xT _ _ _ 0 [_, _, _, _, _] _ _ _
  refine xr_aload0 dX9_rowAt_0 rfl ?_
  refine xr_iload2 dX9_rowAt_1 rfl ?_
  refine xr_putI dX9_rowAt_2 fp_9_156 lay_77 rfl ?_
  refine xr_iload1 dX9_rowAt_5 rfl ?_
  refine xr_istore3 dX9_rowAt_6 (Nat.le_of_ble_eq_true rfl) ?_
  show xT _ _ _ 7 [_, _, _, _, _] _ _ _
  refine xr_iload2 dX9_rowAt_7 rfl ?_
  refine xr_ic1 dX9_rowAt_8 ?_
  refine xr_isub dX9_rowAt_9 ?_
  show xT _ _ _ 10 _ _ _ _
  refine xr_istore dX9_rowAt_10 (Nat.le_of_ble_eq_true rfl) ?_
  show xT _ _ _ 12 [_, _, _, _, _] _ _ _
  exact L n (Nat.le_refl _) p [] _ (Nat.le_refl _) (mfx.rf.up7 _ (by decide)) (by rw [up_same, upd_same]) (by simp) (by simp) (fun k hk => absurd hk (Nat.not_lt_zero _))
theorem c9_placeNow {M : xMac} (h : mMach I M) {r : List Nat} (hr : mRw I r) (hl : r.length ≤ 16) : xCon G M_X9_placeNow [.ref (G.1 77)] I J (xpi fun v I' J' => v = nI (plc (mK M) r) ∧ I = I' ∧ J = J') := by
  obtain ⟨h16, h88⟩ := hr
  have L : ∀ i, i ≤ r.length → xT G M_X9_placeNow (xMQ G (xpi fun v I' J' => v = nI (plc (mK M) r) ∧ I = I' ∧ J = J')) 4 [some (.ref (G.1 77)), some (.int (nI (plc (mK M) (r.take i)))), some (.int (nI i))] [] I J := by
    refine x_for (fun i hi IH => ?_)
    refine xr_iload2 dX9_placeNow_4 rfl ?_
    refine xr_aload0 dX9_placeNow_5 rfl ?_
    refine xr_getIv dX9_placeNow_6 fk_9_156 lay_77 rfl h16 ?_
    refine xr_icmp_ge 32 dX9_placeNow_9 (by decide) (fun hc => ?_) (fun hc => ?_)
    · have : i = r.length := by have := nle hc; omega
      subst this
      rw [List.take_length]
      refine xr_iload1 dX9_placeNow_32 rfl ?_
      refine xr_iret dX9_placeNow_33 rfl rfl ⟨rfl, rfl, rfl⟩
    · have hil := nlt hc
      have IH := IH hil
      have hx := h88 i hil
      rw [Nat.zero_add] at hx
      refine xr_iload1 dX9_placeNow_12 rfl ?_
      refine xr_aload0 dX9_placeNow_13 rfl ?_
      refine xr_getIv dX9_placeNow_14 fk_9_19 lay_77 rfl h.2.1 ?_
      refine xr_imul dX9_placeNow_17 ?_
      refine xr_aload0 dX9_placeNow_18 rfl ?_
      refine xr_getR dX9_placeNow_19 fk_9_45 lay_77 rfl ?_
      refine xr_iload2 dX9_placeNow_22 rfl ?_
      refine xr_ialdv _ dX9_placeNow_23 lay_88 (by (try simp only [k_0, k_1, k_2, k_3, k_4, k_5, k_8, k_16, k_34, k_40, k_200, k_201, k_256, k_512, nI_add, pk_mul]); first | done | rfl) (by omega) (by decide) hx ?_
      show xT _ _ _ 24 _ _ _ _
      refine xr_iadd dX9_placeNow_24 ?_
      refine xr_istore1 dX9_placeNow_25 (Nat.le_of_ble_eq_true rfl) ?_
      show xT _ _ _ 26 [_, _, _] _ _ _
      refine xr_iinc dX9_placeNow_26 rfl ii_1 (Nat.le_of_ble_eq_true rfl) ?_
      show xT _ _ _ 29 [_, _, _] _ _ _
      refine xr_goto 4 dX9_placeNow_29 (by decide) ?_
      rw [List.take_succ_eq_append_getElem hil, plc_snoc] at IH
      simp only [k_1, pk_mul, nI_add]
      exact IH
  refine x_ent (by decide) (Nat.le_of_ble_eq_true rfl) rfl ?_
  show xT _ _ _ 0 [_, _, _] _ _ _
  refine xr_ic0 dX9_placeNow_0 ?_
  refine xr_istore1 dX9_placeNow_1 (Nat.le_of_ble_eq_true rfl) ?_
  show xT _ _ _ 2 [_, _, _] _ _ _
  refine xr_ic0 dX9_placeNow_2 ?_
  refine xr_istore2 dX9_placeNow_3 (Nat.le_of_ble_eq_true rfl) ?_
  show xT _ _ _ 4 [_, _, _] _ _ _
  exact L 0 (by omega)
theorem c9_isTokenBack {M : xMac} (h : mMach I M) {m : Nat} (hm : m < 16) : xCon G M_X9_isTokenBack [.ref (G.1 77), .int (tok m)] I J (xpi fun r I' J' => r = b2 (mB M (m / 2)) ∧ (∃ f, I' = va_up I 85 f) ∧ J = J') := by
  have J15 : xT G M_X9_isTokenBack (xMQ G (xpi fun r I' J' => r = b2 (mB M (m / 2)) ∧ (∃ f, I' = va_up I 85 f) ∧ J = J')) 15 [some (.ref (G.1 77)), some (.int (tok m))] [.int (nI (m / 2)), .ref (G.1 77)] I J := by
    refine xr_cVi [_] dX9_isTokenBack_15 (xcv_of cf_X9_isBack ml_9_124 (by decide)) rfl lay_77 rfl rfl rfl (Nat.le_of_ble_eq_true rfl) (c9_isBack h (by omega)) (fun v I1 J1 hc => ?_)
    obtain ⟨rfl, hf, rfl⟩ := hc
    refine xr_zret dX9_isTokenBack_18 rfl rfl (b2_01 _) ⟨rfl, hf, rfl⟩
  refine x_ent (by decide) (Nat.le_of_ble_eq_true rfl) rfl ?_
  show xT _ _ _ 0 [_, _] _ _ _
  refine xr_aload0 dX9_isTokenBack_0 rfl ?_
  refine xr_iload1 dX9_isTokenBack_1 rfl ?_
  refine xr_if_ge 12 dX9_isTokenBack_2 (by decide) (fun hge => ?_) (fun hge => ?_)
  · have hev : m % 2 = 0 := by
      rcases Nat.mod_two_eq_zero_or_one m with q | q
      · exact q
      · exfalso
        rw [le_toInt, ti_0, tok_toInt (by omega), if_neg (by omega)] at hge
        omega
    refine xr_iload1 dX9_isTokenBack_12 rfl ?_
    refine xr_ic1 dX9_isTokenBack_13 ?_
    refine xr_isub dX9_isTokenBack_14 ?_
    rw [show tok m - 1 = nI (m / 2) by rw [tok, if_pos hev, k_1, pk_sub (by omega), Nat.add_sub_cancel]]
    exact J15
  · have hod : m % 2 = 1 := by
      rcases Nat.mod_two_eq_zero_or_one m with q | q
      · exfalso
        apply hge
        rw [le_toInt, ti_0, tok_toInt (by omega), if_pos q]
        omega
      · exact q
    refine xr_iload1 dX9_isTokenBack_5 rfl ?_
    refine xr_ineg dX9_isTokenBack_6 ?_
    refine xr_ic1 dX9_isTokenBack_7 ?_
    refine xr_isub dX9_isTokenBack_8 ?_
    refine xr_goto 15 dX9_isTokenBack_9 (by decide) ?_
    rw [tneg hod]
    exact J15
theorem c9_common {x y : Nat} (hx : x < 2 ^ 62) (hy : y < 2 ^ 62) : xCon G M_X9_common [.long (lN x), .long (lN y)] I J (xpl fun r I' J' => r = lN (Nat.gcd x y) ∧ I = I' ∧ J = J') := by
  have L : ∀ y, ∀ x (z8 : Option Value), x < 2 ^ 62 → y < 2 ^ 62 → ∀ x0 y0, xT G M_X9_common (xMQ G (xpl fun r I' J' => r = lN (Nat.gcd x y) ∧ I = I' ∧ J = J')) 6 [some (.long x0), none, some (.long y0), none, some (.long (lN x)), none, some (.long (lN y)), none, z8, none] [] I J := by
    intro y
    induction y using x_lt with
    | h y IH =>
    intro x z8 hx hy x0 y0
    refine xr_lload dX9_common_6 rfl ?_
    refine xr_lc0 dX9_common_8 ?_
    refine xr_lcmp dX9_common_9 ?_
    refine xr_if_eq 31 dX9_common_10 (by decide) (fun hz => ?_) (fun hz => ?_)
    · have hz : lN y = lN 0 := (lg_cmp_eq _ _).mp hz
      have hy0 : y = 0 := (pk_lEQ (by omega) (by decide)).mp hz
      subst hy0
      refine xr_lload dX9_common_31 rfl ?_
      refine xr_lret dX9_common_33 rfl rfl ⟨by rw [Nat.gcd_zero_right], rfl, rfl⟩
    · have hy0 : 0 < y := by
        apply Nat.pos_of_ne_zero
        intro q
        exact hz (by rw [q]; decide)
      have hne : ¬ lN y = 0 := fun q => by
        have : y = 0 := (pk_lEQ (b := 0) (by omega) (by decide)).mp q
        omega
      refine xr_lload dX9_common_13 rfl ?_
      refine xr_lload dX9_common_15 rfl ?_
      refine xr_lrem dX9_common_17 hne ?_
      rw [pk_lRem (by omega) hy0 (by omega)]
      refine xr_lstore dX9_common_18 (Nat.le_of_ble_eq_true rfl) ?_
      show xT _ _ _ 20 [_, _, _, _, _, _, _, _, _, _] _ _ _
      refine xr_lload dX9_common_20 rfl ?_
      refine xr_lstore dX9_common_22 (Nat.le_of_ble_eq_true rfl) ?_
      show xT _ _ _ 24 [_, _, _, _, _, _, _, _, _, _] _ _ _
      refine xr_lload dX9_common_24 rfl ?_
      refine xr_lstore dX9_common_26 (Nat.le_of_ble_eq_true rfl) ?_
      show xT _ _ _ 28 [_, _, _, _, _, _, _, _, _, _] _ _ _
      refine xr_goto 6 dX9_common_28 (by decide) ?_
      have hm := Nat.mod_lt x hy0
      have := IH (x % y) hm y (some (.long (lN (x % y)))) hy (by omega) x0 y0
      rw [show Nat.gcd y (x % y) = Nat.gcd x y by rw [Nat.gcd_comm y, ← Nat.gcd_rec, Nat.gcd_comm]] at this
      exact this
  refine x_ent (by decide) (Nat.le_of_ble_eq_true rfl) rfl ?_
  show xT _ _ _ 0 [_, _, _, _, _, _, _, _, _, _] _ _ _
  refine xr_lload0 dX9_common_0 rfl ?_
  refine xr_lstore dX9_common_1 (Nat.le_of_ble_eq_true rfl) ?_
  show xT _ _ _ 3 [_, _, _, _, _, _, _, _, _, _] _ _ _
  refine xr_lload2 dX9_common_3 rfl ?_
  refine xr_lstore dX9_common_4 (Nat.le_of_ble_eq_true rfl) ?_
  show xT _ _ _ 6 [_, _, _, _, _, _, _, _, _, _] _ _ _
  exact L y x _ hx hy _ _
end M20
