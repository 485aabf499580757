section C14
variable {G : xG} {I : xI} {J : xJ}
theorem sm10 : ∀ n : Fin 11, ((nI (2 * n.1) &&& 31).toBitVec.smod 32).toNat = 2 * n.1 := by decide
theorem pow24 (n : Nat) : 2 ^ (2 * n) = 4 ^ n := by rw [Nat.pow_mul]
theorem shr_row {N n : Nat} (hN : N < 2 ^ 31) (hn : n ≤ 10) : nI N >>> (nI 2 * nI n &&& 31) = nI (N / 4 ^ n) := by
  rw [pk_mul, pk_shrN hN _ (2 * n) (sm10 ⟨n, by omega⟩), pow24]
theorem and3 {N : Nat} (hN : N < 2 ^ 32) : nI N &&& 3 = nI (N % 4) := pk_andN hN 2 (by decide)
theorem shr_neg {v : Int32} (hv : v.toInt < 1) {n : Nat} (hn : n ≤ 10) : v >>> (nI 2 * nI n &&& 31) ≠ 1 := fun e => by
  have h1 := pk_shr v (nI 2 * nI n &&& 31) (2 * n) (by rw [pk_mul]; exact sm10 ⟨n, by omega⟩)
  rw [e, ti_1, Int.shiftRight_eq_div_pow] at h1
  have h2 : (0 : Int) < 2 ^ (2 * n) := Int.pow_pos (by decide)
  have h3 : v.toInt / ((2 ^ (2 * n) : Nat) : Int) ≤ 0 := by
    have : ((2 ^ (2 * n) : Nat) : Int) = 2 ^ (2 * n) := by norm_cast
    rw [this]
    exact Int.ediv_le_of_le_mul h2 (by omega)
  omega
theorem c3_hasLetters {M : xMac} (h : cMb I M) {N n : Nat} (hN : N < 2 ^ 31) (hn : n ≤ 10) : xCon G M_X3_hasLetters [.ref (G.1 21), .int (nI N), .int (nI n)] I J (xpi fun v I' J' => (v = 1 ∧ (∀ i, i < n → N / 4 ^ i % 4 < mK M) ∨ v = 0 ∧ ∃ i, i < n ∧ ¬ N / 4 ^ i % 4 < mK M) ∧ I = I' ∧ J = J') := by
  have hK4 := h.1.2.1
  have L : ∀ i, i ≤ n → (∀ i', i' < i → N / 4 ^ i' % 4 < mK M) → xT G M_X3_hasLetters (xMQ G (xpi fun v I' J' => (v = 1 ∧ (∀ i, i < n → N / 4 ^ i % 4 < mK M) ∨ v = 0 ∧ ∃ i, i < n ∧ ¬ N / 4 ^ i % 4 < mK M) ∧ I = I' ∧ J = J')) 2 [some (.ref (G.1 21)), some (.int (nI N)), some (.int (nI n)), some (.int (nI i))] [] I J := by
    refine x_for (fun i hi IH ok => ?_)
    refine xr_iload3 dX3_hasLetters_2 rfl ?_
    refine xr_iload2 dX3_hasLetters_3 rfl ?_
    refine xr_icmp_ge 29 dX3_hasLetters_4 (by decide) (fun hc => ?_) (fun hc => ?_)
    · have : i = n := by have := nle hc; omega
      subst this
      refine xr_ic1 dX3_hasLetters_29 ?_
      refine xr_zret dX3_hasLetters_30 rfl rfl (by simp) ⟨Or.inl ⟨rfl, ok⟩, rfl, rfl⟩
    have hil := nlt hc
    have hdl : N / 4 ^ i ≤ N := Nat.div_le_self _ _
    refine xr_iload1 dX3_hasLetters_7 rfl ?_
    refine xr_ic2 dX3_hasLetters_8 ?_
    refine xr_iload3 dX3_hasLetters_9 rfl ?_
    refine xr_imul dX3_hasLetters_10 ?_
    refine xr_ishr dX3_hasLetters_11 ?_
    refine xr_ic3 dX3_hasLetters_12 ?_
    refine xr_iand dX3_hasLetters_13 ?_
    refine xr_aload0 dX3_hasLetters_14 rfl ?_
    show xT _ _ _ 15 _ _ _ _
    refine xr_getIv dX3_hasLetters_15 fk_3_31 lay_21 rfl h.2.1 ?_
    rw [k_2, shr_row hN (by omega), and3 (by omega)]
    refine xr_icmp_lt 23 dX3_hasLetters_18 (by decide) (fun hlt => ?_) (fun hlt => ?_)
    rotate_left
    · have hge := nnlt hlt
      refine xr_ic0 dX3_hasLetters_21 ?_
      refine xr_zret dX3_hasLetters_22 rfl rfl (by simp) ⟨Or.inr ⟨rfl, i, hil, by omega⟩, rfl, rfl⟩
    have hlt := nltl hlt
    refine xr_iinc dX3_hasLetters_23 rfl ii_1 (Nat.le_of_ble_eq_true rfl) ?_
    show xT _ _ _ 26 [_, _, _, _] _ _ _
    refine xr_goto 2 dX3_hasLetters_26 (by decide) ?_
    rw [k_1, nI_add]
    refine IH hil (fun i' hi' => ?_)
    rcases Nat.lt_or_ge i' i with q | q
    · exact ok i' q
    · have : i' = i := by omega
      rw [this]; exact hlt
  refine x_ent (by decide) (Nat.le_of_ble_eq_true rfl) rfl ?_
  show xT _ _ _ 0 [_, _, _, _] _ _ _
  refine xr_ic0 dX3_hasLetters_0 ?_
  refine xr_istore3 dX3_hasLetters_1 (Nat.le_of_ble_eq_true rfl) ?_
  show xT _ _ _ 2 [_, _, _, _] _ _ _
  exact L 0 (Nat.zero_le _) (fun i' hi' => absurd hi' (Nat.not_lt_zero _))
theorem c3_rowLength {M : xMac} (h : cMb I M) (v : Int32) : xCon G M_X3_rowLength [.ref (G.1 21), .int v] I J (xpi fun r I' J' => r = oI ((rowOf (mK M) v).map List.length) ∧ I = I' ∧ J = J') := by
  have hK4 := h.1.2.1
  have L : ∀ n, n ≤ 11 → (∀ n', n' < n → v.toInt < 1 ∨ ¬ w2n v / 4 ^ n' = 1) → xT G M_X3_rowLength (xMQ G (xpi fun r I' J' => r = oI ((rowOf (mK M) v).map List.length) ∧ I = I' ∧ J = J')) 2 [some (.ref (G.1 21)), some (.int v), some (.int (nI n))] [] I J := by
    refine x_for (fun n hn IH no => ?_)
    refine xr_iload2 dX3_rowLength_2 rfl ?_
    refine xr_bip bi_10 dX3_rowLength_3 ?_
    refine xr_icmp_gt 38 dX3_rowLength_5 (by decide) (fun hc => ?_) (fun hc => ?_)
    · have hc : 10 < n := nltl (a := 10) hc
      refine xr_icm1 dX3_rowLength_38 ?_
      refine xr_iret dX3_rowLength_39 rfl rfl ⟨?_, rfl, rfl⟩
      have : rowOf (mK M) v = none := by
        unfold rowOf
        split
        · rfl
        · rename_i hv
          cases hr : rwd (mK M) 10 (w2n v) with
          | none => rfl
          | some r =>
            obtain ⟨a1, a2, a3⟩ := rwd_len hK4 hr
            rcases no r.length (by omega) with q | q
            · exact absurd q hv
            · exact absurd a2 q
      rw [this]
      rfl
    have hc : n ≤ 10 := nnlt (a := 10) hc
    have IH := IH (by omega)
    have K32 : (v.toInt < 1 ∨ ¬ w2n v / 4 ^ n = 1) → xT G M_X3_rowLength (xMQ G (xpi fun r I' J' => r = oI ((rowOf (mK M) v).map List.length) ∧ I = I' ∧ J = J')) 32 [some (.ref (G.1 21)), some (.int v), some (.int (nI n))] [] I J := by
      intro hn'
      refine xr_iinc dX3_rowLength_32 rfl ii_1 (Nat.le_of_ble_eq_true rfl) ?_
      show xT _ _ _ 35 [_, _, _] _ _ _
      refine xr_goto 2 dX3_rowLength_35 (by decide) ?_
      rw [k_1, nI_add]
      refine IH (fun n' hn2 => ?_)
      rcases Nat.lt_or_ge n' n with q | q
      · exact no n' q
      · have : n' = n := by omega
        rw [this]; exact hn'
    by_cases hv : v.toInt < 1
    · skip
      refine xr_iload1 dX3_rowLength_8 rfl ?_
      refine xr_ic2 dX3_rowLength_9 ?_
      refine xr_iload2 dX3_rowLength_10 rfl ?_
      refine xr_imul dX3_rowLength_11 ?_
      refine xr_ishr dX3_rowLength_12 ?_
      refine xr_ic1 dX3_rowLength_13 ?_
      rw [k_2]
      refine xr_icmp_ne 32 dX3_rowLength_14 (by decide) (fun hne => ?_) (fun hne => ?_)
      rotate_left
      · exact absurd hne (shr_neg hv hc)
      exact K32 (Or.inl hv)
    have hv31 := Int32.toInt_lt v
    have hN31 : w2n v < 2 ^ 31 := by unfold w2n; omega
    have hvn : v = nI (w2n v) := (nI_w2n (by rw [lt_toInt, ti_0]; omega)).symm
    have ero : rowOf (mK M) v = rwd (mK M) 10 (w2n v) := by unfold rowOf; rw [if_neg hv]
    rw [ero]
    generalize hNv : w2n v = N at *
    subst hvn
    have hdl : N / 4 ^ n ≤ N := Nat.div_le_self _ _
    refine xr_iload1 dX3_rowLength_8 rfl ?_
    refine xr_ic2 dX3_rowLength_9 ?_
    refine xr_iload2 dX3_rowLength_10 rfl ?_
    refine xr_imul dX3_rowLength_11 ?_
    refine xr_ishr dX3_rowLength_12 ?_
    refine xr_ic1 dX3_rowLength_13 ?_
    rw [k_2, shr_row hN31 hc]
    refine xr_icmp_ne 32 dX3_rowLength_14 (by decide) (fun hne => ?_) (fun hne => ?_)
    · have := K32 (Or.inr (fun q => hne (by rw [q]; rfl)))
      rw [ero] at this
      exact this
    have h1 : N / 4 ^ n = 1 := (nI_eq (by omega) (by decide)).mp hne
    refine xr_aload0 dX3_rowLength_17 rfl ?_
    refine xr_iload1 dX3_rowLength_18 rfl ?_
    refine xr_iload2 dX3_rowLength_19 rfl ?_
    refine xr_cVi [_, _] dX3_rowLength_20 (xcv_of cf_X3_hasLetters ml_3_80 (by decide)) rfl lay_21 rfl rfl rfl (Nat.le_of_ble_eq_true rfl) (c3_hasLetters h hN31 hc) (fun b I1 J1 hc1 => ?_)
    obtain ⟨hb, rfl, rfl⟩ := hc1
    rcases hb with ⟨rfl, hb⟩ | ⟨rfl, i, hi, hb⟩
    · obtain ⟨r, hr, hrl⟩ := rwd_pos hK4 (f := 10) hc h1 hb
      refine xr_if_eq 30 dX3_rowLength_23 (by decide) (fun hz => ?_) (fun hz => ?_)
      · exact absurd hz (by decide)
      refine xr_iload2 dX3_rowLength_26 rfl ?_
      refine xr_goto 31 dX3_rowLength_27 (by decide) ?_
      refine xr_iret dX3_rowLength_31 rfl rfl ⟨by rw [hr]; simp [oI, hrl], rfl, rfl⟩
    · skip
      refine xr_if_eq 30 dX3_rowLength_23 (by decide) (fun hz => ?_) (fun hz => ?_)
      rotate_left
      · exact absurd rfl hz
      refine xr_icm1 dX3_rowLength_30 ?_
      refine xr_iret dX3_rowLength_31 rfl rfl ⟨?_, rfl, rfl⟩
      cases hr : rwd (mK M) 10 N with
      | none => rfl
      | some r =>
        obtain ⟨a1, a2, a3⟩ := rwd_len hK4 hr
        have := pow4_uniq a2 h1
        exact absurd (a3 i (by omega)) hb
  refine x_ent (by decide) (Nat.le_of_ble_eq_true rfl) rfl ?_
  show xT _ _ _ 0 [_, _, _] _ _ _
  refine xr_ic0 dX3_rowLength_0 ?_
  refine xr_istore2 dX3_rowLength_1 (Nat.le_of_ble_eq_true rfl) ?_
  show xT _ _ _ 2 [_, _, _] _ _ _
  exact L 0 (by decide) (fun n' hn' => absurd hn' (Nat.not_lt_zero _))
theorem wact_row {M : xMac} (hM : mOk M) (hwh : mWhole M) {x : Nat} (hx : x < mK M) : ∀ {r w : List Nat}, rOk M r → wOk M w → wact M w (r ++ [x]) = wact M w r ++ [wout M (wparts M w r) x]
  | [], w, _, hw => by
    have h1 := wact_cons hM hwh hx (r := []) (fun a ha => by cases ha) hw
    have h2 : ∀ w : List Nat, wact M w [] = [] := fun w => List.length_eq_zero_iff.mp (by rw [wact_len]; rfl)
    rw [List.nil_append, h1, h2, h2]
    rfl
  | y :: r, w, hr, hw => by
    have hy := hr y List.mem_cons_self
    have hr' : rOk M r := fun a ha => hr a (List.mem_cons_of_mem _ ha)
    have hrx : rOk M (r ++ [x]) := fun a ha => by
      rcases List.mem_append.mp ha with q | q
      · exact hr' a q
      · rw [List.mem_singleton.mp q]; exact hx
    rw [List.cons_append, wact_cons hM hwh hy hrx hw, wact_cons hM hwh hy hr' hw, wact_row hM hwh hx hr' (wpart_good hM hwh hw hy).1]
    rfl
theorem c8_walkDown {M : xMac} (hm : cMc I M) (hwh : mWhole M) {ws : List Nat} (hs : cWd I J 20 ws) (hg : wGood M ws) {r : List Nat} (hr : rOk M r) (hrl : r.length ≤ 10) : xCon G M_X8_walkDown [.ref (G.1 0), .ref (G.1 20), .int (nI (rowNum r)), .int (nI r.length)] I J (xpi fun v I' J' => v = nI (rowNum (wact M ws r)) ∧ cWd I' J' 20 (wparts M ws r) ∧ cfx [20] I J I' J') := by
  have hM := hm.1.1
  have hK4 := hM.2.1
  have h4 : ∀ x ∈ r, x < 4 := fun x hx => by have := hr x hx; omega
  have hrn := rowNum_lt r h4
  have hp10 : 4 ^ r.length ≤ 4 ^ 10 := Nat.pow_le_pow_right (by decide) hrl
  have h410 : 4 ^ 10 = 1048576 := by decide
  have L : ∀ j, j ≤ r.length → ∀ I1 J1, cfx [20] I J I1 J1 → cWd I1 J1 20 (wparts M ws (r.take (r.length - j))) → xT G M_X8_walkDown (xMQ G (xpi fun v I' J' => v = nI (rowNum (wact M ws r)) ∧ cWd I' J' 20 (wparts M ws r) ∧ cfx [20] I J I' J')) 8 [some (.ref (G.1 0)), some (.ref (G.1 20)), some (.int (nI (rowNum r))), some (.int (nI r.length)), some (.int (nI (rowNum (wact M ws (r.take (r.length - j)))))), some (.int (nI j + -1))] [] I1 J1 := by
    intro j
    induction j with
    | zero =>
      intro hj I1 J1 f1 d1
      rw [Nat.sub_zero, List.take_length] at d1 ⊢
      refine xr_iload dX8_walkDown_8 rfl ?_
      refine xr_if_lt 42 dX8_walkDown_10 (by decide) (fun hz => ?_) (fun hz => ?_)
      rotate_left
      · exact absurd (by decide) hz
      refine xr_iload dX8_walkDown_42 rfl ?_
      refine xr_iret dX8_walkDown_44 rfl rfl ⟨rfl, d1, f1⟩
    | succ j IH =>
      intro hj I1 J1 f1 d1
      have hjl : r.length - (j + 1) < r.length := by omega
      have IH := IH (by omega)
      have etk : r.take (r.length - j) = r.take (r.length - (j + 1)) ++ [r[r.length - (j + 1)]] := by
        rw [← List.take_succ_eq_append_getElem hjl]
        congr 1
        omega
      have hdig := rowNum_dig h4 (i := j) (by omega)
      have hdx : r[r.length - 1 - j]'(by omega) = r[r.length - (j + 1)] := by congr 1; omega
      rw [hdx] at hdig
      have hx := hr _ (List.getElem_mem hjl)
      have hrt : rOk M (r.take (r.length - (j + 1))) := fun a ha => hr a (List.mem_of_mem_take ha)
      have hpg := wparts_good hM hwh hg.2.2 hg.2.1 _ hrt
      rw [etk, wact_row hM hwh hx hrt hg.2.2, rowNum_snoc, wparts_snoc] at IH
      have hra := rowNum_lt (wact M ws (r.take (r.length - (j + 1)))) (fun x hx => by have := wact_ok hM hwh _ _ hg.2.2 hrt x hx; omega)
      rw [wact_len] at hra
      generalize hA : rowNum (wact M ws (r.take (r.length - (j + 1)))) = A at *
      generalize hP : wparts M ws (r.take (r.length - (j + 1))) = p at *
      generalize r[r.length - (j + 1)] = x at *
      have hdl : rowNum r / 4 ^ j ≤ rowNum r := Nat.div_le_self _ _
      have ev : nI (j + 1) + -1 = nI j := by
        rw [show (-1 : Int32) = -(1 : Int32) from rfl, ← Int32.sub_eq_add_neg, k_1, pk_sub (by omega), Nat.add_sub_cancel]
      rw [ev]
      refine xr_iload dX8_walkDown_8 rfl ?_
      refine xr_if_lt 42 dX8_walkDown_10 (by decide) (fun hz => ?_) (fun hz => ?_)
      · exact absurd hz (nI_pos (by omega))
      refine xr_ic4 dX8_walkDown_13 ?_
      refine xr_iload dX8_walkDown_14 rfl ?_
      refine xr_imul dX8_walkDown_16 ?_
      refine xr_aload1 dX8_walkDown_17 rfl ?_
      refine xr_aload0 dX8_walkDown_18 rfl ?_
      refine xr_getR dX8_walkDown_19 fk_8_33 lay_0 rfl ?_
      refine xr_iload2 dX8_walkDown_22 rfl ?_
      refine xr_ic2 dX8_walkDown_23 ?_
      show xT _ _ _ 24 _ _ _ _
      refine xr_iload dX8_walkDown_24 rfl ?_
      refine xr_imul dX8_walkDown_26 ?_
      refine xr_ishr dX8_walkDown_27 ?_
      refine xr_ic3 dX8_walkDown_28 ?_
      refine xr_iand dX8_walkDown_29 ?_
      rw [k_2, shr_row (by omega) (by omega), and3 (by omega), hdig]
      refine xr_cVi [_, _] dX8_walkDown_30 (xcv_of cf_X7_descend ml_8_301 (by decide)) rfl lay_20 rfl rfl rfl (Nat.le_of_ble_eq_true rfl) (c7_descend (f1.mc hm (by decide)) hwh (show isW 20 from rfl) d1 (by have := hg.1; omega) hpg.1 hx) (fun v I2 J2 hc2 => ?_)
      obtain ⟨rfl, d2, f2⟩ := hc2
      refine xr_iadd dX8_walkDown_33 ?_
      refine xr_istore dX8_walkDown_34 (Nat.le_of_ble_eq_true rfl) ?_
      show xT _ _ _ 36 [_, _, _, _, _, _] _ _ _
      refine xr_iinc dX8_walkDown_36 rfl ii_m1 (Nat.le_of_ble_eq_true rfl) ?_
      show xT _ _ _ 39 [_, _, _, _, _, _] _ _ _
      refine xr_goto 8 dX8_walkDown_39 (by decide) ?_
      rw [k_4, pk_mul, nI_add]
      exact IH I2 J2 (f1.tr f2) d2
  refine x_ent (by decide) (Nat.le_of_ble_eq_true rfl) rfl ?_
  show xT _ _ _ 0 [_, _, _, _, _, _] _ _ _
  refine xr_ic1 dX8_walkDown_0 ?_
  refine xr_istore dX8_walkDown_1 (Nat.le_of_ble_eq_true rfl) ?_
  show xT _ _ _ 3 [_, _, _, _, _, _] _ _ _
  refine xr_iload3 dX8_walkDown_3 rfl ?_
  refine xr_ic1 dX8_walkDown_4 ?_
  refine xr_isub dX8_walkDown_5 ?_
  rw [Int32.sub_eq_add_neg]
  refine xr_istore dX8_walkDown_6 (Nat.le_of_ble_eq_true rfl) ?_
  show xT _ _ _ 8 [_, _, _, _, _, _] _ _ _
  have := L r.length (Nat.le_refl _) I J cfx.rf (by rw [Nat.sub_self]; exact hs)
  rw [Nat.sub_self, List.take_zero, show rowNum (wact M ws []) = 1 by rw [List.length_eq_zero_iff.mp (show (wact M ws []).length = 0 by rw [wact_len]; rfl)]; rfl] at this
  exact this
theorem c8_act {S : xSt} (spot row : Int32) (hm : cMc I S.2.1) (hp : cSp I J S.2.1 S.2.2) : xCon G M_X8_act [.ref (G.1 0), .int spot, .int row] I J (xpi fun v I' J' => v = sp_act S spot row ∧ cfx [20] I J I' J') := by
  have hM := hm.1.1
  have K20 : ∀ z3 : Int32, sp_act S spot row = -1 → xT G M_X8_act (xMQ G (xpi fun v I' J' => v = sp_act S spot row ∧ cfx [20] I J I' J')) 20 [some (.ref (G.1 0)), some (.int spot), some (.int row), some (.int z3)] [] I J := by
    intro z3 e
    rw [e]
    refine xr_icm1 dX8_act_20 ?_
    refine xr_iret dX8_act_21 rfl rfl ⟨rfl, cfx.rf⟩
  refine x_ent (by decide) (Nat.le_of_ble_eq_true rfl) rfl ?_
  show xT _ _ _ 0 [_, _, _, _] _ _ _
  refine xr_aload0 dX8_act_0 rfl ?_
  refine xr_getR dX8_act_1 fk_8_33 lay_0 rfl ?_
  refine xr_iload2 dX8_act_4 rfl ?_
  refine xr_cVi [_] dX8_act_5 (xcv_of cf_X3_rowLength ml_8_179 (by decide)) rfl lay_21 rfl rfl rfl (Nat.le_of_ble_eq_true rfl) (c3_rowLength hm.1 row) (fun v I1 J1 hc => ?_)
  obtain ⟨rfl, rfl, rfl⟩ := hc
  refine xr_istore3 dX8_act_8 (Nat.le_of_ble_eq_true rfl) ?_
  show xT _ _ _ 9 [_, _, _, _] _ _ _
  refine xr_iload1 dX8_act_9 rfl ?_
  refine xr_cSi [_] dX8_act_10 (xcs_of cf_X8_isSpot ml_8_145 (by decide)) rfl rfl (Nat.le_of_ble_eq_true rfl) (c8_isSpot spot) (fun v I1 J1 hc => ?_)
  obtain ⟨rfl, rfl, rfl⟩ := hc
  refine xr_if_eq 20 dX8_act_13 (by decide) (fun hs => ?_) (fun hs => ?_)
  · have hs := is_n hs
    exact K20 _ (by simp [sp_act, hs])
  obtain ⟨w, hs⟩ := is_s hs
  obtain ⟨hw8, rfl⟩ := ix_some hs
  cases hr : rowOf (mK S.2.1) row with
  | none =>
    refine xr_iload3 dX8_act_16 rfl ?_
    refine xr_if_ge 22 dX8_act_17 (by decide) (fun hz => ?_) (fun hz => ?_)
    · exact absurd hz (by decide)
    exact K20 _ (by simp [sp_act, hs, hr])
  | some r =>
  obtain ⟨rl, rk, rfl⟩ := rowOf_some hr
  refine xr_iload3 dX8_act_16 rfl ?_
  refine xr_if_ge 22 dX8_act_17 (by decide) (fun hz => ?_) (fun hz => ?_)
  rotate_left
  · exact absurd (nI_pos' (by omega)) hz
  rw [show oI (Option.map List.length (some r)) = nI r.length from rfl]
  have hW := isW_s w hw8
  obtain ⟨hwd, hw16, hwr, hwo⟩ := sp_w hp hM hw8
  refine xr_aload0 dX8_act_22 rfl ?_
  refine xr_getR dX8_act_23 fk_8_33 lay_0 rfl ?_
  refine xr_getIv dX8_act_26 fk_8_139 lay_21 rfl hm.2.2.1 ?_
  refine xr_if_ne 35 dX8_act_29 (by decide) (fun hwh => ?_) (fun hwh => ?_)
  rotate_left
  · have hwh := b2_0.mp hwh
    refine xr_bip bi_m5 dX8_act_32 ?_
    refine xr_iret dX8_act_34 rfl rfl ⟨by simp [sp_act, hs, hr, hwh], cfx.rf⟩
  have hwh : mW S.2.1 = true := by
    cases hq : mW S.2.1 with
    | true => rfl
    | false => rw [hq] at hwh; exact absurd rfl hwh
  have hwhole := mW_iff.mp hwh
  have e : sp_act S (nI w) (nI (rowNum r)) = nI (rowNum (wact S.2.1 (S.2.2 w) r)) := by simp [sp_act, hs, hr, hwh]
  refine xr_aload0 dX8_act_35 rfl ?_
  refine xr_getR dX8_act_36 fk_8_26 lay_0 rfl ?_
  refine xr_aload0 dX8_act_39 rfl ?_
  refine xr_getR dX8_act_40 fk_8_17 lay_0 rfl ?_
  refine xr_iload1 dX8_act_43 rfl ?_
  refine xr_aald4 w dX8_act_44 lay_2 rfl hw8 (by decide) ?_
  refine xr_cVv [_] dX8_act_45 (xcv_of cf_X7_copy ml_8_182 (by decide)) rfl lay_20 rfl rfl rfl (Nat.le_of_ble_eq_true rfl) (c7_copy (show isW 20 from rfl) hW hwd) (fun I1 J1 hc => ?_)
  obtain ⟨d1, f1⟩ := hc
  refine xr_aload0 dX8_act_48 rfl ?_
  refine xr_aload0 dX8_act_49 rfl ?_
  refine xr_getR dX8_act_50 fk_8_26 lay_0 rfl ?_
  refine xr_iload2 dX8_act_53 rfl ?_
  refine xr_iload3 dX8_act_54 rfl ?_
  refine xr_cVi [_, _, _] dX8_act_55 (xcv_of cf_X8_walkDown ml_8_186 (by decide)) rfl lay_0 rfl rfl rfl (Nat.le_of_ble_eq_true rfl) (c8_walkDown (f1.mc hm (by decide)) hwhole d1 (hp w hw8).2 rk rl) (fun v I2 J2 hc => ?_)
  obtain ⟨rfl, d2, f2⟩ := hc
  refine xr_iret dX8_act_58 rfl rfl ⟨by rw [e], f1.tr f2⟩
theorem c8_part {S : xSt} (a row to : Int32) (hm : cMc I S.2.1) (hp : cSp I J S.2.1 S.2.2) : xCon G M_X8_part [.ref (G.1 0), .int a, .int row, .int to] I J (xpi fun v I' J' => cPo S (sp_part S a row to) v I J I' J') := by
  have hM := hm.1.1
  have K29 : ∀ z4 : Int32, sp_part S a row to = (-1, S) → xT G M_X8_part (xMQ G (xpi fun v I' J' => cPo S (sp_part S a row to) v I J I' J')) 29 [some (.ref (G.1 0)), some (.int a), some (.int row), some (.int to), some (.int z4)] [] I J := by
    intro z4 e
    refine xr_icm1 dX8_part_29 ?_
    refine xr_iret dX8_part_30 rfl rfl (cPo.no hp e cfx.rf)
  refine x_ent (by decide) (Nat.le_of_ble_eq_true rfl) rfl ?_
  show xT _ _ _ 0 [_, _, _, _, _] _ _ _
  refine xr_aload0 dX8_part_0 rfl ?_
  refine xr_getR dX8_part_1 fk_8_33 lay_0 rfl ?_
  refine xr_iload2 dX8_part_4 rfl ?_
  refine xr_cVi [_] dX8_part_5 (xcv_of cf_X3_rowLength ml_8_179 (by decide)) rfl lay_21 rfl rfl rfl (Nat.le_of_ble_eq_true rfl) (c3_rowLength hm.1 row) (fun v I1 J1 hc => ?_)
  obtain ⟨rfl, rfl, rfl⟩ := hc
  refine xr_istore dX8_part_8 (Nat.le_of_ble_eq_true rfl) ?_
  show xT _ _ _ 10 [_, _, _, _, _] _ _ _
  refine xr_iload1 dX8_part_10 rfl ?_
  refine xr_cSi [_] dX8_part_11 (xcs_of cf_X8_isSpot ml_8_145 (by decide)) rfl rfl (Nat.le_of_ble_eq_true rfl) (c8_isSpot a) (fun v I1 J1 hc => ?_)
  obtain ⟨rfl, rfl, rfl⟩ := hc
  refine xr_if_eq 29 dX8_part_14 (by decide) (fun hs => ?_) (fun hs => ?_)
  · have hs := is_n hs
    exact K29 _ (by simp [sp_part, hs])
  obtain ⟨w, hs⟩ := is_s hs
  obtain ⟨hw8, rfl⟩ := ix_some hs
  cases hr : rowOf (mK S.2.1) row with
  | none =>
    refine xr_iload dX8_part_17 rfl ?_
    refine xr_if_lt 29 dX8_part_19 (by decide) (fun hz => ?_) (fun hz => ?_)
    rotate_left
    · exact absurd (by decide) hz
    exact K29 _ (by simp [sp_part, hs, hr])
  | some r =>
  obtain ⟨rl, rk, rfl⟩ := rowOf_some hr
  refine xr_iload dX8_part_17 rfl ?_
  refine xr_if_lt 29 dX8_part_19 (by decide) (fun hz => ?_) (fun hz => ?_)
  · exact absurd hz (nI_pos (by omega))
  rw [show oI (Option.map List.length (some r)) = nI r.length from rfl]
  refine xr_iload3 dX8_part_22 rfl ?_
  refine xr_cSi [_] dX8_part_23 (xcs_of cf_X8_isSpot ml_8_145 (by decide)) rfl rfl (Nat.le_of_ble_eq_true rfl) (c8_isSpot to) (fun v I1 J1 hc => ?_)
  obtain ⟨rfl, rfl, rfl⟩ := hc
  refine xr_if_ne 31 dX8_part_26 (by decide) (fun ht => ?_) (fun ht => ?_)
  rotate_left
  · have ht := is_n ht
    exact K29 _ (by simp [sp_part, hs, hr, ht])
  obtain ⟨to', ht⟩ := is_s ht
  obtain ⟨ht8, rfl⟩ := ix_some ht
  have hW := isW_s w hw8
  obtain ⟨hwd, hw16, hwr, hwo⟩ := sp_w hp hM hw8
  refine xr_aload0 dX8_part_31 rfl ?_
  refine xr_getR dX8_part_32 fk_8_33 lay_0 rfl ?_
  refine xr_getIv dX8_part_35 fk_8_139 lay_21 rfl hm.2.2.1 ?_
  refine xr_if_ne 44 dX8_part_38 (by decide) (fun hwh => ?_) (fun hwh => ?_)
  rotate_left
  · have hwh := b2_0.mp hwh
    refine xr_bip bi_m5 dX8_part_41 ?_
    refine xr_iret dX8_part_43 rfl rfl (cPo.no hp (by simp [sp_part, hs, hr, ht, hwh]) cfx.rf)
  have hwh : mW S.2.1 = true := by
    cases hq : mW S.2.1 with
    | true => rfl
    | false => rw [hq] at hwh; exact absurd rfl hwh
  have hwhole := mW_iff.mp hwh
  have e : sp_part S (nI w) (nI (rowNum r)) (nI to') = (nI (wparts S.2.1 (S.2.2 w) r).length, (S.1, S.2.1, va_up S.2.2 to' (wparts S.2.1 (S.2.2 w) r))) := by simp only [sp_part, hs, hr, ht]; rw [if_neg (by rw [hwh]; decide)]
  have hpg := wparts_good hM hwhole hwo hwr r rk
  refine xr_aload0 dX8_part_44 rfl ?_
  refine xr_getR dX8_part_45 fk_8_26 lay_0 rfl ?_
  refine xr_aload0 dX8_part_48 rfl ?_
  refine xr_getR dX8_part_49 fk_8_17 lay_0 rfl ?_
  refine xr_iload1 dX8_part_52 rfl ?_
  refine xr_aald4 w dX8_part_53 lay_2 rfl hw8 (by decide) ?_
  refine xr_cVv [_] dX8_part_54 (xcv_of cf_X7_copy ml_8_182 (by decide)) rfl lay_20 rfl rfl rfl (Nat.le_of_ble_eq_true rfl) (c7_copy (show isW 20 from rfl) hW hwd) (fun I1 J1 hc => ?_)
  obtain ⟨d1, f1⟩ := hc
  refine xr_aload0 dX8_part_57 rfl ?_
  refine xr_aload0 dX8_part_58 rfl ?_
  refine xr_getR dX8_part_59 fk_8_26 lay_0 rfl ?_
  refine xr_iload2 dX8_part_62 rfl ?_
  refine xr_iload dX8_part_63 rfl ?_
  refine xr_cVi [_, _, _] dX8_part_65 (xcv_of cf_X8_walkDown ml_8_186 (by decide)) rfl lay_0 rfl rfl rfl (Nat.le_of_ble_eq_true rfl) (c8_walkDown (f1.mc hm (by decide)) hwhole d1 (hp w hw8).2 rk rl) (fun v I2 J2 hc => ?_)
  obtain ⟨rfl, d2, f2⟩ := hc
  refine xr_pop dX8_part_68 rfl ?_
  refine xr_aload0 dX8_part_69 rfl ?_
  refine xr_aload0 dX8_part_70 rfl ?_
  refine xr_getR dX8_part_71 fk_8_26 lay_0 rfl ?_
  refine xr_iload3 dX8_part_74 rfl ?_
  refine xr_cVi [_, _] dX8_part_75 (xcv_of cf_X8_bring ml_8_175 (by decide)) rfl lay_0 rfl rfl rfl (Nat.le_of_ble_eq_true rfl) (c8_bring d2 ht8) (fun v I3 J3 hc => ?_)
  obtain ⟨rfl, d3, f3⟩ := hc
  refine xr_iret dX8_part_78 rfl rfl (cPo.yes ht8 hp e d3 ⟨by have := hw16.1; omega, hpg.2.1, hpg.1⟩ (((f1.tr f2).mono (by simp)).tr (f3.mono (by simp))))
end C14
