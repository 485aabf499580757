section M11
variable {G : xG} {I : xI} {J : xJ}
theorem rem4 {N : Nat} (h : N < 2 ^ 31) : nI N - nI N / 4 * 4 = nI (N % 4) := by rw [k_4]; exact pk_rem h (by decide) (by decide)
theorem div4 {N : Nat} (h : N < 2 ^ 31) : nI N / 4 = nI (N / 4) := by rw [k_4]; exact pk_div h (by decide) (by decide)
/-- the letters of a row, from its end -/
theorem rwd_at {K : Nat} : ∀ {f N : Nat} {r : List Nat}, rwd K f N = some r → ∀ i (h : i < r.length), r[r.length - 1 - i]'(by omega) = N / 4 ^ i % 4
  | 0, N, r, h, i, hi => by
    unfold rwd at h
    split at h
    · cases h; simp at hi
    · cases h
  | f + 1, N, r, h, i, hi => by
    unfold rwd at h
    split at h
    · cases h; simp at hi
    · split at h
      · cases h
      · cases hr : rwd K f (N / 4) with
        | none => rw [hr] at h; cases h
        | some q =>
          rw [hr] at h
          have h : q ++ [N % 4] = r := Option.some.inj h
          subst h
          have hl : (q ++ [N % 4]).length = q.length + 1 := by simp
          cases i with
          | zero =>
            rw [Nat.pow_zero, Nat.div_one]
            rw [List.getElem_append_right (by omega)]
            simp
          | succ i =>
            have := rwd_at hr i (by omega)
            rw [List.getElem_append_left (by omega)]
            rw [Nat.pow_succ, Nat.mul_comm, ← Nat.div_div_eq_div_mul, ← this]
            congr 1
            omega
theorem c9_takeRow {M : xMac} (h : mMach I M) (v : Int32) : xCon G M_X9_takeRow [.ref (G.1 77), .int v, .int 10] I J (xpi fun b I' J' => b = b2 (rowOf (mK M) v).isSome ∧ (∀ r, rowOf (mK M) v = some r → mRw I' r) ∧ mfx [88] [16] I I' ∧ J = J') := by
  obtain ⟨⟨hK2, hK4, hN8, hok⟩, hK, hN, hwg⟩ := id h
  -- the second loop: it writes the letters, the last one first
  have L2 : ∀ r, rowOf (mK M) v = some r → ∀ j, j ≤ r.length → ∀ I1 (z4 : Int32), mfx [88] [16] I I1 → I1 77 16 = nI r.length → (∀ i (hi : i < r.length), r.length - j ≤ i → I1 88 i = nI r[i]) → xT G M_X9_takeRow (xMQ G (xpi fun b I' J' => b = b2 (rowOf (mK M) v).isSome ∧ (∀ r, rowOf (mK M) v = some r → mRw I' r) ∧ mfx [88] [16] I I' ∧ J = J')) 93 [some (.ref (G.1 77)), some (.int v), some (.int 10), some (.int (nI (w2n v / 4 ^ j))), some (.int z4), some (.int (nI (r.length - j) - 1))] [] I1 J := by
    intro r hr
    have hv1 : ¬ v.toInt < 1 := fun q => by rw [rowOf, if_pos q] at hr; cases hr
    have hrw : rwd (mK M) 10 (w2n v) = some r := by rw [rowOf, if_neg hv1] at hr; exact hr
    have hN31 : w2n v < 2 ^ 31 := by have := Int32.toInt_lt v; unfold w2n; omega
    have hlen := (rwd_spec hrw).1
    refine x_for (fun j hj IH I1 z4 f1 hs hd => ?_)
    have hpw : w2n v / 4 ^ j < 2 ^ 31 := Nat.lt_of_le_of_lt (Nat.div_le_self _ _) hN31
    refine xr_iload dX9_takeRow_93 rfl ?_
    refine xr_if_lt 118 dX9_takeRow_95 (by decide) (fun hc => ?_) (fun hc => ?_)
    · have : j = r.length := by
        apply Classical.byContradiction
        intro q
        have e1 : ∃ k, r.length - j = k + 1 := ⟨r.length - j - 1, by omega⟩
        obtain ⟨k, e1⟩ := e1
        rw [e1, nI_pred] at hc
        exact nI_pos (by omega) hc
      refine xr_ic1 dX9_takeRow_118 ?_
      refine xr_zret dX9_takeRow_119 rfl rfl (by simp) ⟨by rw [hr]; rfl, fun r' h' => ?_, f1, rfl⟩
      rw [hr] at h'
      cases h'
      exact ⟨hs, fun i hi => by rw [Nat.zero_add]; exact hd i hi (by omega)⟩
    · have hjl : j < r.length := by
        apply Classical.byContradiction
        intro q
        have e1 : r.length - j = 0 := by omega
        rw [e1] at hc
        exact hc (by decide)
      have IH := IH hjl
      have e1 : r.length - j = (r.length - (j + 1)) + 1 := by omega
      rw [e1, nI_pred]
      refine xr_aload0 dX9_takeRow_98 rfl ?_
      refine xr_getR dX9_takeRow_99 fk_9_45 lay_77 rfl ?_
      refine xr_iload dX9_takeRow_102 rfl ?_
      refine xr_iload3 dX9_takeRow_104 rfl ?_
      refine xr_ic4 dX9_takeRow_105 ?_
      refine xr_irem dX9_takeRow_106 (by decide) ?_
      rw [rem4 hpw]
      refine xr_iast _ dX9_takeRow_107 lay_88 rfl (by omega) (by decide) ?_
      refine xr_iload3 dX9_takeRow_108 rfl ?_
      refine xr_ic4 dX9_takeRow_109 ?_
      refine xr_idiv dX9_takeRow_110 (by decide) ?_
      refine xr_istore3 dX9_takeRow_111 (Nat.le_of_ble_eq_true rfl) ?_
      show xT _ _ _ 112 [_, _, _, _, _, _] _ _ _
      rw [div4 hpw]
      refine xr_iinc dX9_takeRow_112 rfl ii_m1 (Nat.le_of_ble_eq_true rfl) ?_
      show xT _ _ _ 115 [_, _, _, _, _, _] _ _ _
      refine xr_goto 93 dX9_takeRow_115 (by decide) ?_
      rw [Nat.div_div_eq_div_mul, ← Nat.pow_succ, show nI (r.length - (j + 1)) + -1 = nI (r.length - (j + 1)) - 1 by grind]
      refine IH _ _ (f1.up _ (by decide) (by decide)) (by rw [va_up_ne _ _ (by decide)]; exact hs) (fun i hi hge => ?_)
      rw [up_same]
      by_cases e : i = r.length - (j + 1)
      · subst e
        rw [upd_same, ← rwd_at hrw j hjl]
        congr 2
        omega
      · rw [upd_ne _ _ e]
        exact hd i hi (by omega)
  -- the first loop
  have L1 : ∀ k, k ≤ 10 → ∀ (left : Nat) (suf : List Nat) I1 (z5 : Option Value), left < 2 ^ 31 → 1 ≤ left → ¬ v.toInt < 1 → rwd (mK M) 10 (w2n v) = (rwd (mK M) (10 - k) left).map (fun r => r ++ suf) → suf.length = k → mfx [88] [16] I I1 → I1 77 16 = nI k → xT G M_X9_takeRow (xMQ G (xpi fun b I' J' => b = b2 (rowOf (mK M) v).isSome ∧ (∀ r, rowOf (mK M) v = some r → mRw I' r) ∧ mfx [88] [16] I I' ∧ J = J')) 19 [some (.ref (G.1 77)), some (.int v), some (.int 10), some (.int (nI left)), some (.int 1), z5] [] I1 J := by
    refine x_for (fun k hk IH left suf I1 z5 hl h1 hv he hs f1 h16 => ?_)
    have hK1 : I1 77 3 = nI (mK M) := (f1.2 3 (by decide)).trans hK
    have hro : rowOf (mK M) v = (rwd (mK M) (10 - k) left).map (fun r => r ++ suf) := by rw [rowOf, if_neg hv, he]
    refine xr_iload dX9_takeRow_19 rfl ?_
    refine xr_if_eq 76 dX9_takeRow_21 (by decide) (fun hb => ?_) (fun hb => ?_)
    · exact absurd hb (by decide)
    refine xr_iload3 dX9_takeRow_24 rfl ?_
    refine xr_ic1 dX9_takeRow_25 ?_
    refine xr_icmp_le 76 dX9_takeRow_26 (by decide) (fun hle => ?_) (fun hle => ?_)
    · have hle : left ≤ 1 := (nI_leI (a := left) (b := 1) hl (by decide)).mp hle
      have hl1 : left = 1 := by omega
      subst hl1
      have hr : rowOf (mK M) v = some suf := by
        rw [hro]
        cases (10 - k) <;> simp [rwd]
      refine xr_iload dX9_takeRow_76 rfl ?_
      refine xr_if_ne 83 dX9_takeRow_78 (by decide) (fun hb2 => ?_) (fun hb2 => ?_)
      rotate_left
      · exact absurd hb2 (by decide)
      refine xr_iload1 dX9_takeRow_83 rfl ?_
      refine xr_istore3 dX9_takeRow_84 (Nat.le_of_ble_eq_true rfl) ?_
      show xT _ _ _ 85 [_, _, _, _, _, _] _ _ _
      refine xr_aload0 dX9_takeRow_85 rfl ?_
      refine xr_getIv dX9_takeRow_86 fk_9_156 lay_77 rfl h16 ?_
      refine xr_ic1 dX9_takeRow_89 ?_
      refine xr_isub dX9_takeRow_90 ?_
      refine xr_istore dX9_takeRow_91 (Nat.le_of_ble_eq_true rfl) ?_
      show xT _ _ _ 93 [_, _, _, _, _, _] _ _ _
      have hv2 : v = nI (w2n v / 4 ^ 0) := by
        rw [Nat.pow_zero, Nat.div_one]
        exact (nI_w2n (by rw [lt_toInt, ti_0]; omega)).symm
      have := L2 suf hr 0 (Nat.zero_le _) I1 1 f1 (by rw [h16, hs]) (fun i hi hge => by omega)
      rw [← hv2, Nat.sub_zero, hs] at this
      exact this
    · have hgt : 1 < left := Nat.not_le.mp (fun q => hle ((nI_leI (a := left) (b := 1) hl (by decide)).mpr q))
      -- where it isn't a row
      have bad : ∀ (z : Int32), rowOf (mK M) v = none → xT G M_X9_takeRow (xMQ G (xpi fun b I' J' => b = b2 (rowOf (mK M) v).isSome ∧ (∀ r, rowOf (mK M) v = some r → mRw I' r) ∧ mfx [88] [16] I I' ∧ J = J')) 56 [some (.ref (G.1 77)), some (.int v), some (.int 10), some (.int (nI left)), some (.int z), z5] [] I1 J := by
        intro z hn
        refine xr_ic0 dX9_takeRow_56 ?_
        refine xr_istore dX9_takeRow_57 (Nat.le_of_ble_eq_true rfl) ?_
        show xT _ _ _ 59 [_, _, _, _, _, _] _ _ _
        refine xr_iload3 dX9_takeRow_59 rfl ?_
        refine xr_ic4 dX9_takeRow_60 ?_
        refine xr_idiv dX9_takeRow_61 (by decide) ?_
        rw [div4 hl]
        refine xr_istore3 dX9_takeRow_62 (Nat.le_of_ble_eq_true rfl) ?_
        show xT _ _ _ 63 [_, _, _, _, _, _] _ _ _
        refine xr_aload0 dX9_takeRow_63 rfl ?_
        refine xr_dup dX9_takeRow_64 rfl ?_
        refine xr_getIv dX9_takeRow_65 fk_9_156 lay_77 rfl h16 ?_
        refine xr_ic1 dX9_takeRow_68 ?_
        refine xr_iadd dX9_takeRow_69 ?_
        refine xr_putI dX9_takeRow_70 fp_9_156 lay_77 rfl ?_
        refine xr_goto 19 dX9_takeRow_73 (by decide) ?_
        show xT _ _ _ 19 _ _ _ _
        refine xr_iload dX9_takeRow_19 rfl ?_
        refine xr_if_eq 76 dX9_takeRow_21 (by decide) (fun hb => ?_) (fun hb => ?_)
        rotate_left
        · exact absurd rfl hb
        refine xr_iload dX9_takeRow_76 rfl ?_
        refine xr_if_ne 83 dX9_takeRow_78 (by decide) (fun hb2 => ?_) (fun hb2 => ?_)
        · exact absurd rfl hb2
        refine xr_ic0 dX9_takeRow_81 ?_
        refine xr_zret dX9_takeRow_82 rfl rfl (by simp) ⟨by rw [hn]; rfl, fun r hr => (by rw [hn] at hr; cases hr), f1.up7 _ (by decide), rfl⟩
      refine xr_iload3 dX9_takeRow_29 rfl ?_
      refine xr_ic4 dX9_takeRow_30 ?_
      refine xr_icmp_lt 56 dX9_takeRow_31 (by decide) (fun h4 => ?_) (fun h4 => ?_)
      · have h4 : left < 4 := (nI_ltI (a := left) (b := 4) hl (by decide)).mp h4
        refine bad _ ?_
        rw [hro]
        have : rwd (mK M) (10 - k) left = none := by
          cases (10 - k) with
          | zero => rw [rwd, if_neg (by omega)]
          | succ f => rw [rwd, if_neg (by omega), if_pos (Or.inl h4)]
        rw [this]; rfl
      · have h4 : 4 ≤ left := Nat.not_lt.mp (fun q => h4 ((nI_ltI (a := left) (b := 4) hl (by decide)).mpr q))
        refine xr_iload3 dX9_takeRow_34 rfl ?_
        refine xr_ic4 dX9_takeRow_35 ?_
        refine xr_irem dX9_takeRow_36 (by decide) ?_
        rw [rem4 hl]
        refine xr_aload0 dX9_takeRow_37 rfl ?_
        refine xr_getIv dX9_takeRow_38 fk_9_19 lay_77 rfl hK1 ?_
        refine xr_icmp_ge 56 dX9_takeRow_41 (by decide) (fun hlt => ?_) (fun hlt => ?_)
        · have hlt := nle hlt
          refine bad _ ?_
          rw [hro]
          have : rwd (mK M) (10 - k) left = none := by
            cases (10 - k) with
            | zero => rw [rwd, if_neg (by omega)]
            | succ f => rw [rwd, if_neg (by omega), if_pos (Or.inr hlt)]
          rw [this]; rfl
        · have hlt := nlt hlt
          refine xr_aload0 dX9_takeRow_44 rfl ?_
          refine xr_getIv dX9_takeRow_45 fk_9_156 lay_77 rfl h16 ?_
          refine xr_iload2 dX9_takeRow_48 rfl ?_
          refine xr_icmp_ge 56 dX9_takeRow_49 (by decide) (fun h10 => ?_) (fun h10 => ?_)
          · have h10 := nle (b := 10) h10
            have hk10 : k = 10 := by omega
            have : rowOf (mK M) v = none := by
              rw [hro, hk10, rwd, if_neg (by omega)]; rfl
            exact bad _ this
          · have h10 := nlt (b := 10) h10
            have IH := IH h10
            refine xr_ic1 dX9_takeRow_52 ?_
            refine xr_goto 57 dX9_takeRow_53 (by decide) ?_
            refine xr_istore dX9_takeRow_57 (Nat.le_of_ble_eq_true rfl) ?_
            show xT _ _ _ 59 [_, _, _, _, _, _] _ _ _
            refine xr_iload3 dX9_takeRow_59 rfl ?_
            refine xr_ic4 dX9_takeRow_60 ?_
            refine xr_idiv dX9_takeRow_61 (by decide) ?_
            rw [div4 hl]
            refine xr_istore3 dX9_takeRow_62 (Nat.le_of_ble_eq_true rfl) ?_
            show xT _ _ _ 63 [_, _, _, _, _, _] _ _ _
            refine xr_aload0 dX9_takeRow_63 rfl ?_
            refine xr_dup dX9_takeRow_64 rfl ?_
            refine xr_getIv dX9_takeRow_65 fk_9_156 lay_77 rfl h16 ?_
            refine xr_ic1 dX9_takeRow_68 ?_
            refine xr_iadd dX9_takeRow_69 ?_
            refine xr_putI dX9_takeRow_70 fp_9_156 lay_77 rfl ?_
            refine xr_goto 19 dX9_takeRow_73 (by decide) ?_
            show xT _ _ _ 19 _ _ _ _
            rw [k_1, nI_add]
            refine IH (left / 4) (left % 4 :: suf) _ _ (by omega) (by omega) hv ?_ (by simp [hs]) (f1.up7 _ (by decide)) (by rw [up_same, upd_same])
            rw [he, show 10 - k = (10 - (k + 1)) + 1 by omega, rwd, if_neg (by omega), if_neg (by omega)]
            cases rwd (mK M) (10 - (k + 1)) (left / 4) with
            | none => rfl
            | some q => simp
  refine x_ent (by decide) (Nat.le_of_ble_eq_true rfl) rfl ?_
  show xT _ _ _ 0 [_, _, _, _, _, _] _ _ _
  refine xr_aload0 dX9_takeRow_0 rfl ?_
  refine xr_ic0 dX9_takeRow_1 ?_
  refine xr_putI dX9_takeRow_2 fp_9_156 lay_77 rfl ?_
  refine xr_iload1 dX9_takeRow_5 rfl ?_
  refine xr_istore3 dX9_takeRow_6 (Nat.le_of_ble_eq_true rfl) ?_
  show xT _ _ _ 7 [_, _, _, _, _, _] _ _ _
  refine xr_iload1 dX9_takeRow_7 rfl ?_
  refine xr_ic1 dX9_takeRow_8 ?_
  have f0 : mfx [88] [16] I (va_up I 77 (upd (I 77) 16 0)) := mfx.rf.up7 _ (by decide)
  refine xr_icmp_lt 16 dX9_takeRow_9 (by decide) (fun h1 => ?_) (fun h1 => ?_)
  · skip
    refine xr_ic0 dX9_takeRow_16 ?_
    refine xr_istore dX9_takeRow_17 (Nat.le_of_ble_eq_true rfl) ?_
    show xT _ _ _ 19 [_, _, _, _, _, _] _ _ _
    have h1 : v.toInt < 1 := by
      rw [lt_toInt, show (1 : Int32).toInt = 1 by decide] at h1
      exact h1
    have hn : rowOf (mK M) v = none := by rw [rowOf, if_pos h1]
    refine xr_iload dX9_takeRow_19 rfl ?_
    refine xr_if_eq 76 dX9_takeRow_21 (by decide) (fun hb => ?_) (fun hb => ?_)
    rotate_left
    · exact absurd rfl hb
    refine xr_iload dX9_takeRow_76 rfl ?_
    refine xr_if_ne 83 dX9_takeRow_78 (by decide) (fun hb2 => ?_) (fun hb2 => ?_)
    · exact absurd rfl hb2
    refine xr_ic0 dX9_takeRow_81 ?_
    refine xr_zret dX9_takeRow_82 rfl rfl (by simp) ⟨by rw [hn]; rfl, fun r hr => (by rw [hn] at hr; cases hr), f0, rfl⟩
  · skip
    refine xr_ic1 dX9_takeRow_12 ?_
    refine xr_goto 17 dX9_takeRow_13 (by decide) ?_
    refine xr_istore dX9_takeRow_17 (Nat.le_of_ble_eq_true rfl) ?_
    show xT _ _ _ 19 [_, _, _, _, _, _] _ _ _
    have h1 : ¬ v.toInt < 1 := by
      rw [lt_toInt, show (1 : Int32).toInt = 1 by decide] at h1
      exact h1
    have hN31 : w2n v < 2 ^ 31 := by have := Int32.toInt_lt v; unfold w2n; omega
    have hv2 : v = nI (w2n v) := (nI_w2n (by rw [lt_toInt, ti_0]; omega)).symm
    have := L1 0 (by decide) (w2n v) [] _ none hN31 (by unfold w2n; omega) h1 (by simp) rfl f0 (by rw [up_same, upd_same]; rfl)
    rw [← hv2] at this
    exact this
theorem c9_rowNumber {r : List Nat} (h : mRw I r) (hl : r.length ≤ 10) (h4 : ∀ x ∈ r, x < 4) : xCon G M_X9_rowNumber [.ref (G.1 77)] I J (xpi fun v I' J' => v = nI (rowNum r) ∧ I = I' ∧ J = J') := by
  obtain ⟨h16, h88⟩ := h
  have L : ∀ i, i ≤ r.length → xT G M_X9_rowNumber (xMQ G (xpi fun v I' J' => v = nI (rowNum r) ∧ I = I' ∧ J = J')) 4 [some (.ref (G.1 77)), some (.int (nI (rowNum (r.take i)))), some (.int (nI i))] [] I J := by
    refine x_for (fun i hi IH => ?_)
    refine xr_iload2 dX9_rowNumber_4 rfl ?_
    refine xr_aload0 dX9_rowNumber_5 rfl ?_
    refine xr_getIv dX9_rowNumber_6 fk_9_156 lay_77 rfl h16 ?_
    refine xr_icmp_ge 29 dX9_rowNumber_9 (by decide) (fun hc => ?_) (fun hc => ?_)
    · have : i = r.length := by have := nle hc; omega
      subst this
      rw [List.take_length]
      refine xr_iload1 dX9_rowNumber_29 rfl ?_
      refine xr_iret dX9_rowNumber_30 rfl rfl ⟨rfl, rfl, rfl⟩
    · have hil := nlt hc
      have IH := IH hil
      have hx := h88 i hil
      rw [Nat.zero_add] at hx
      refine xr_ic4 dX9_rowNumber_12 ?_
      refine xr_iload1 dX9_rowNumber_13 rfl ?_
      refine xr_imul dX9_rowNumber_14 ?_
      refine xr_aload0 dX9_rowNumber_15 rfl ?_
      refine xr_getR dX9_rowNumber_16 fk_9_45 lay_77 rfl ?_
      refine xr_iload2 dX9_rowNumber_19 rfl ?_
      refine xr_ialdv _ dX9_rowNumber_20 lay_88 (by (try simp only [k_0, k_1, k_2, k_3, k_4, k_5, k_8, k_16, k_34, k_40, k_200, k_201, k_256, k_512, nI_add, pk_mul]); first | done | rfl) (by omega) (by decide) hx ?_
      refine xr_iadd dX9_rowNumber_21 ?_
      show xT _ _ _ 22 _ _ _ _
      refine xr_istore1 dX9_rowNumber_22 (Nat.le_of_ble_eq_true rfl) ?_
      show xT _ _ _ 23 [_, _, _] _ _ _
      refine xr_iinc dX9_rowNumber_23 rfl ii_1 (Nat.le_of_ble_eq_true rfl) ?_
      show xT _ _ _ 26 [_, _, _] _ _ _
      refine xr_goto 4 dX9_rowNumber_26 (by decide) ?_
      rw [List.take_succ_eq_append_getElem hil, rowNum_snoc] at IH
      simp only [k_4, k_1, pk_mul, nI_add]
      exact IH
  refine x_ent (by decide) (Nat.le_of_ble_eq_true rfl) rfl ?_
  show xT _ _ _ 0 [_, _, _] _ _ _
  refine xr_ic1 dX9_rowNumber_0 ?_
  refine xr_istore1 dX9_rowNumber_1 (Nat.le_of_ble_eq_true rfl) ?_
  show xT _ _ _ 2 [_, _, _] _ _ _
  refine xr_ic0 dX9_rowNumber_2 ?_
  refine xr_istore2 dX9_rowNumber_3 (Nat.le_of_ble_eq_true rfl) ?_
  show xT _ _ _ 4 [_, _, _] _ _ _
  exact L 0 (by omega)
theorem mact_len (M : xMac) : ∀ (r : List Nat) (o : Option Nat), (mact M o r).length = r.length
  | [], o => by simp [mact]
  | x :: r, none => by simp [mact]
  | x :: r, some m => by simp [mact, mact_len M r]
theorem mact_none (M : xMac) : ∀ r, mact M none r = r
  | [] => rfl
  | x :: r => rfl
theorem mact_ok {M : xMac} (hM : mOk M) (hwh : mWhole M) : ∀ (r : List Nat) (o : Option Nat), (∀ m, o = some m → mOkm M m) → rOk M r → rOk M (mact M o r)
  | [], o, _, _ => by simp [mact, rOk]
  | x :: r, none, _, h => h
  | x :: r, some m, ho, h => by
    have hm := ho m rfl
    have hx := h x List.mem_cons_self
    have h2 := mact_ok hM hwh r (mg M m x) (fun g hg => mg_ok hM hwh hm hx hg) (fun y hy => h y (List.mem_cons_of_mem _ hy))
    intro y hy
    unfold mact at hy
    rcases List.mem_cons.mp hy with rfl | hy
    · exact mw_lt hM hm hx
    · exact h2 y hy
theorem c9_rewrite {M : xMac} (h : mMach I M) (hwh : mWhole M) {m : Nat} (hm : mOkm M m) {r : List Nat} (hr : mRw I r) (hl : r.length ≤ 16) (hrk : rOk M r) : xCon G M_X9_rewrite [.ref (G.1 77), .int (tok m)] I J (xpv fun I' J' => mRw I' (mact M (some m) r) ∧ mfx [88] [13, 14] I I' ∧ J = J') := by
  have hN8 := h.1.2.2.1
  have L : ∀ (rest pre : List Nat) (o : Option Nat) (I1 : xI), mfx [88] [13, 14] I I1 → mRw I1 (pre ++ rest) → pre ++ mact M o rest = mact M (some m) r → (∀ g, o = some g → mOkm M g) → rOk M rest → pre.length + rest.length = r.length → xT G M_X9_rewrite (xMQ G (xpv fun I' J' => mRw I' (mact M (some m) r) ∧ mfx [88] [13, 14] I I' ∧ J = J')) 4 [some (.ref (G.1 77)), some (.int (tok m)), some (.int (stk o)), some (.int (nI pre.length))] [] I1 J := by
    intro rest
    induction rest with
    | nil =>
      intro pre o I1 f1 hw ht ho hrk hln
      have h16 : I1 77 16 = nI pre.length := by rw [hw.1]; simp
      refine xr_iload3 dX9_rewrite_4 rfl ?_
      refine xr_aload0 dX9_rewrite_5 rfl ?_
      refine xr_getIv dX9_rewrite_6 fk_9_156 lay_77 rfl h16 ?_
      refine xr_icmp_ge 48 dX9_rewrite_9 (by decide) (fun hc => ?_) (fun hc => ?_)
      rotate_left
      · exact absurd (Int32.le_refl _) hc
      refine xr_vret dX9_rewrite_48 rfl rfl ⟨?_, f1, rfl⟩
      rw [← ht]
      simpa [mact] using hw
    | cons x rest IH =>
      intro pre o I1 f1 hw ht ho hrk hln
      have h16 : I1 77 16 = nI (pre.length + (rest.length + 1)) := by rw [hw.1]; simp
      have hx := hrk x List.mem_cons_self
      have h88 : I1 88 pre.length = nI x := by
        have := hw.2 pre.length (by simp)
        rw [Nat.zero_add] at this
        rw [this]; simp
      rw [List.length_cons] at hln
      refine xr_iload3 dX9_rewrite_4 rfl ?_
      refine xr_aload0 dX9_rewrite_5 rfl ?_
      refine xr_getIv dX9_rewrite_6 fk_9_156 lay_77 rfl h16 ?_
      refine xr_icmp_ge 48 dX9_rewrite_9 (by decide) (fun hc => ?_) (fun hc => ?_)
      · have := nle hc; omega
      refine xr_iload2 dX9_rewrite_12 rfl ?_
      cases o with
      | none =>
        refine xr_if_eq 48 dX9_rewrite_13 (by decide) (fun hz => ?_) (fun hz => ?_)
        rotate_left
        · exact absurd rfl hz
        refine xr_vret dX9_rewrite_48 rfl rfl ⟨?_, f1, rfl⟩
        rw [← ht]
        exact hw
      | some g =>
        have hg := ho g rfl
        refine xr_if_eq 48 dX9_rewrite_13 (by decide) (fun hz => ?_) (fun hz => ?_)
        · exact absurd hz (tok_ne0 (by have := hg.1; omega))
        refine xr_aload0 dX9_rewrite_16 rfl ?_
        refine xr_iload2 dX9_rewrite_17 rfl ?_
        refine xr_aload0 dX9_rewrite_18 rfl ?_
        refine xr_getR dX9_rewrite_19 fk_9_45 lay_77 rfl ?_
        refine xr_iload3 dX9_rewrite_22 rfl ?_
        refine xr_ialdv _ dX9_rewrite_23 lay_88 (by (try simp only [k_0, k_1, k_2, k_3, k_4, k_5, k_8, k_16, k_34, k_40, k_200, k_201, k_256, k_512, nI_add, pk_mul]); first | done | rfl) (by omega) (by decide) h88 ?_
        refine xr_cVv [_, _] dX9_rewrite_24 (xcv_of cf_X9_step ml_9_153 (by decide)) rfl lay_77 rfl rfl rfl (Nat.le_of_ble_eq_true rfl) (c9_step (f1.mach h (by decide) (by decide)) hwh hg hx) (fun I2 J2 hc2 => ?_)
        obtain ⟨e1, e2, f2, rfl⟩ := hc2
        have f12 := f1.tr (f2.mono (A' := [88]) (by simp) (fun a h => h))
        refine xr_aload0 dX9_rewrite_27 rfl ?_
        refine xr_getR dX9_rewrite_28 fk_9_45 lay_77 rfl ?_
        refine xr_iload3 dX9_rewrite_31 rfl ?_
        refine xr_aload0 dX9_rewrite_32 rfl ?_
        refine xr_getIv dX9_rewrite_33 fk_9_147 lay_77 rfl e1 ?_
        refine xr_iast _ dX9_rewrite_36 lay_88 rfl (by omega) (by decide) ?_
        refine xr_aload0 dX9_rewrite_37 rfl ?_
        refine xr_getIv dX9_rewrite_38 fk_9_150 lay_77 rfl (show _ = stk (mg M g x) by rw [va_up_ne _ _ (by decide)]; exact e2) ?_
        refine xr_istore2 dX9_rewrite_41 (Nat.le_of_ble_eq_true rfl) ?_
        show xT _ _ _ 42 [_, _, _, _] _ _ _
        refine xr_iinc dX9_rewrite_42 rfl ii_1 (Nat.le_of_ble_eq_true rfl) ?_
        show xT _ _ _ 45 [_, _, _, _] _ _ _
        refine xr_goto 4 dX9_rewrite_45 (by decide) ?_
        rw [k_1, nI_add]
        have hw2 : mRw (va_up I2 88 (upd (I2 88) pre.length (nI (mw M g x)))) ((pre ++ [mw M g x]) ++ rest) := by
          refine ⟨?_, ?_⟩
          · rw [va_up_ne _ _ (by decide), f2.2 16 (by decide), hw.1]; simp
          · rw [up_same, List.append_assoc]
            have h2 : lrep (I2 88) 0 (pre ++ x :: rest) nI := by rw [f2.1 88 (by decide) (by decide)]; exact hw.2
            have := h2.mid (y := mw M g x) (v := nI (mw M g x)) rfl
            rw [Nat.zero_add] at this
            exact this
        have := IH (pre ++ [mw M g x]) (mg M g x) _ (f12.up _ (by decide) (by decide)) hw2 (by rw [List.append_assoc]; exact ht) (fun q hq => mg_ok h.1 hwh hg hx hq) (fun y hy => hrk y (List.mem_cons_of_mem _ hy)) (by simp; omega)
        rw [List.length_append, List.length_singleton] at this
        exact this
  refine x_ent (by decide) (Nat.le_of_ble_eq_true rfl) rfl ?_
  show xT _ _ _ 0 [_, _, _, _] _ _ _
  refine xr_iload1 dX9_rewrite_0 rfl ?_
  refine xr_istore2 dX9_rewrite_1 (Nat.le_of_ble_eq_true rfl) ?_
  show xT _ _ _ 2 [_, _, _, _] _ _ _
  refine xr_ic0 dX9_rewrite_2 ?_
  refine xr_istore3 dX9_rewrite_3 (Nat.le_of_ble_eq_true rfl) ?_
  show xT _ _ _ 4 [_, _, _, _] _ _ _
  exact L r [] (some m) I mfx.rf hr rfl (fun g hg => by cases hg; exact hm) hrk (by simp)
end M11
