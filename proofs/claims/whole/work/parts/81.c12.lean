section C12
variable {G : xG} {I : xI} {J : xJ}
def cPo (S : xSt) (r : Int32 × xSt) (v : Int32) (I : xI) (J : xJ) (I' : xI) (J' : xJ) : Prop := v = r.1 ∧ r.2.1 = S.1 ∧ r.2.2.1 = S.2.1 ∧ cSp I' J' S.2.1 r.2.2.2 ∧ cfx [3, 12, 13, 14, 15, 16, 17, 18, 19, 20] I J I' J'
theorem cPo.no {S : xSt} {r : Int32 × xSt} {v : Int32} {I I' : xI} {J J' : xJ} (h : cSp I J S.2.1 S.2.2) (e : r = (v, S)) (f : cfx [3, 20] I J I' J') : cPo S r v I J I' J' := by
  subst e
  exact ⟨rfl, rfl, rfl, f.sp h (by decide), f.mono (by simp)⟩
theorem cSp.set {I I' : xI} {J J' : xJ} {M : xMac} {sp : Nat → List Nat} (h : cSp I J M sp) {to : Nat} {ws : List Nat} (d : cWd I' J' (12 + to) ws) (g : wGood M ws) (f : cfx [3, 20, 12 + to] I J I' J') : cSp I' J' M (va_up sp to ws) := fun w hw => by
  by_cases e : w = to
  · subst e; rw [up_same]; exact ⟨d, g⟩
  · rw [va_up_ne _ _ e]
    exact ⟨f.wd (h w hw).1 (by simp; omega), (h w hw).2⟩
theorem cPo.yes {S : xSt} {v : Int32} {to : Nat} (hto : to < 8) {ws : List Nat} {I I' : xI} {J J' : xJ} (h : cSp I J S.2.1 S.2.2) {r : Int32 × xSt} (e : r = (v, (S.1, S.2.1, va_up S.2.2 to ws))) (d : cWd I' J' (12 + to) ws) (g : wGood S.2.1 ws) (f : cfx [3, 20, 12 + to] I J I' J') : cPo S r v I J I' J' := by
  subst e
  exact ⟨rfl, rfl, rfl, h.set d g f, f.mono (fun a ha => by simp at ha ⊢; omega)⟩
noncomputable def refG (M : xMac) (ts : List Int32) : Int32 := if ts.all (fun t => decide (-(mN M : Int) ≤ t.toInt ∧ t.toInt ≤ mN M)) = false then -1 else if ts.any (fun t => decide (t.toInt < 0) && !mB M (t2m t / 2)) = true then -6 else 0
theorem c8_refusalOfGiven {M : xMac} (hm : cMc I M) {a b c d : Int32} (hg : ∀ j, j < 4 → I 3 j = [a, b, c, d].getD j 0) : xCon G M_X8_refusalOfGiven [.ref (G.1 0)] I J (xpi fun v I' J' => v = refG M (ptoks a b c d) ∧ I = I' ∧ J = J') := by
  have hN8 := hm.1.1.2.2.1
  generalize hL : [a, b, c, d] = l at hg
  have hl4 : l.length = 4 := by rw [← hL]; rfl
  have L : ∀ i, i ≤ 4 → ∀ (k : Bool) (z3 : Option Value), (∀ j, j < i → l.getD j 0 ≠ 0) → (∀ t ∈ l.take i, -(mN M : Int) ≤ t.toInt ∧ t.toInt ≤ mN M) → (k = (l.take i).any (fun t => decide (t.toInt < 0) && !mB M (t2m t / 2))) → xT G M_X8_refusalOfGiven (xMQ G (xpi fun v I' J' => v = refG M (ptoks a b c d) ∧ I = I' ∧ J = J')) 4 [some (.ref (G.1 0)), some (.int (if k then -6 else 0)), some (.int (nI i)), z3] [] I J := by
    refine x_for (fun i hi IH k z3 nz rg hk => ?_)
    have K77 : ptoks a b c d = l.take i → xT G M_X8_refusalOfGiven (xMQ G (xpi fun v I' J' => v = refG M (ptoks a b c d) ∧ I = I' ∧ J = J')) 77 [some (.ref (G.1 0)), some (.int (if k then -6 else 0)), some (.int (nI i)), z3] [] I J := by
      intro e
      refine xr_iload1 dX8_refusalOfGiven_77 rfl ?_
      refine xr_iret dX8_refusalOfGiven_78 rfl rfl ⟨?_, rfl, rfl⟩
      unfold refG
      have hall : (l.take i).all (fun t => decide (-(mN M : Int) ≤ t.toInt ∧ t.toInt ≤ mN M)) = true := List.all_eq_true.mpr (fun t ht => decide_eq_true (rg t ht))
      rw [e, ← hk, hall, if_neg (show ¬ true = false by decide)]
    refine xr_iload2 dX8_refusalOfGiven_4 rfl ?_
    refine xr_ic4 dX8_refusalOfGiven_5 ?_
    refine xr_icmp_ge 77 dX8_refusalOfGiven_6 (by decide) (fun hc => ?_) (fun hc => ?_)
    · have : i = 4 := by have := nle (b := 4) hc; omega
      subst this
      exact K77 (by rw [← hL]; rw [← hL] at nz; exact ptoks_take (by omega) nz (fun q => by omega))
    have hi4 := nlt (b := 4) hc
    have IH := IH hi4
    have hv := hg i hi4
    refine xr_aload0 dX8_refusalOfGiven_9 rfl ?_
    refine xr_getR dX8_refusalOfGiven_10 fk_8_21 lay_0 rfl ?_
    refine xr_iload2 dX8_refusalOfGiven_13 rfl ?_
    refine xr_ialdv i dX8_refusalOfGiven_14 lay_3 rfl hi4 (by decide) hv ?_
    refine xr_if_eq 77 dX8_refusalOfGiven_15 (by decide) (fun hz => ?_) (fun hz => ?_)
    · exact K77 (by rw [← hL]; rw [← hL] at nz hz; exact ptoks_take (by omega) nz (fun _ => hz))
    have hgd : l.getD i 0 = l[i]'(by omega) := by rw [List.getD_eq_getElem?_getD, List.getElem?_eq_getElem (by omega)]; rfl
    have htk : l.take (i + 1) = l.take i ++ [l.getD i 0] := by rw [List.take_succ_eq_append_getElem (by omega), hgd]
    generalize ht : l.getD i 0 = t at *
    have nz' : ∀ j, j < i + 1 → l.getD j 0 ≠ 0 := fun j hj => by
      rcases Nat.lt_or_ge j i with q | q
      · exact nz j q
      · have : j = i := by omega
        subst this
        rw [ht]; exact hz
    have hmem : t ∈ ptoks a b c d := by
      have hsub : ∀ n, n ≤ 4 → (∀ j, j < n → l.getD j 0 ≠ 0) → (n < 4 → l.getD n 0 = 0) → ptoks a b c d = l.take n := fun n h1 h2 h3 => by rw [← hL]; rw [← hL] at h2 h3; exact ptoks_take h1 h2 h3
      have hex : ∃ n, i < n ∧ n ≤ 4 ∧ (∀ j, j < n → l.getD j 0 ≠ 0) ∧ (n < 4 → l.getD n 0 = 0) := by
        have key : ∀ f n, n + f = 4 → i < n → (∀ j, j < n → l.getD j 0 ≠ 0) → ∃ n, i < n ∧ n ≤ 4 ∧ (∀ j, j < n → l.getD j 0 ≠ 0) ∧ (n < 4 → l.getD n 0 = 0) := by
          intro f
          induction f with
          | zero => exact fun n h1 h2 h3 => ⟨n, h2, by omega, h3, fun q => by omega⟩
          | succ f IHf =>
            intro n h1 h2 h3
            by_cases q : l.getD n 0 = 0
            · exact ⟨n, h2, by omega, h3, fun _ => q⟩
            · exact IHf (n + 1) (by omega) (by omega) (fun j hj => by
                rcases Nat.lt_or_ge j n with g | g
                · exact h3 j g
                · have : j = n := by omega
                  rw [this]; exact q)
        exact key (4 - (i + 1)) (i + 1) (by omega) (by omega) nz'
      obtain ⟨n, h1, h2, h3, h4⟩ := hex
      rw [hsub n h2 h3 h4]
      have : (l.take n)[i]? = some t := by rw [List.getElem?_take_of_lt h1, List.getElem?_eq_getElem (by omega), ← hgd]
      exact List.mem_of_getElem? this
    have K48 : ¬ (-(mN M : Int) ≤ t.toInt ∧ t.toInt ≤ mN M) → ∀ z3 : Option Value, xT G M_X8_refusalOfGiven (xMQ G (xpi fun v I' J' => v = refG M (ptoks a b c d) ∧ I = I' ∧ J = J')) 48 [some (.ref (G.1 0)), some (.int (if k then -6 else 0)), some (.int (nI i)), z3] [] I J := by
      intro hn z3
      refine xr_icm1 dX8_refusalOfGiven_48 ?_
      refine xr_iret dX8_refusalOfGiven_49 rfl rfl ⟨?_, rfl, rfl⟩
      unfold refG
      rw [if_pos]
      rw [List.all_eq_false]
      exact ⟨t, hmem, by simpa using hn⟩
    have tneg : (-nI (mN M)).toInt = -(mN M : Int) := by
      rw [Int32.toInt_neg, nI_toInt (by omega), Int.bmod_eq_of_le (by omega) (by omega)]
    refine xr_aload0 dX8_refusalOfGiven_18 rfl ?_
    refine xr_getR dX8_refusalOfGiven_19 fk_8_21 lay_0 rfl ?_
    refine xr_iload2 dX8_refusalOfGiven_22 rfl ?_
    refine xr_ialdv i dX8_refusalOfGiven_23 lay_3 rfl hi4 (by decide) hv ?_
    refine xr_istore3 dX8_refusalOfGiven_24 (Nat.le_of_ble_eq_true rfl) ?_
    show xT _ _ _ 25 [_, _, _, _] _ _ _
    refine xr_iload3 dX8_refusalOfGiven_25 rfl ?_
    refine xr_aload0 dX8_refusalOfGiven_26 rfl ?_
    refine xr_getR dX8_refusalOfGiven_27 fk_8_33 lay_0 rfl ?_
    show xT _ _ _ 30 _ _ _ _
    refine xr_getIv dX8_refusalOfGiven_30 fk_8_102 lay_21 rfl hm.1.2.2.1 ?_
    refine xr_ineg dX8_refusalOfGiven_33 ?_
    refine xr_icmp_lt 48 dX8_refusalOfGiven_34 (by decide) (fun h1 => ?_) (fun h1 => ?_)
    · rw [lt_toInt, tneg] at h1
      exact K48 (by omega) _
    rw [lt_toInt, tneg] at h1
    refine xr_iload3 dX8_refusalOfGiven_37 rfl ?_
    refine xr_aload0 dX8_refusalOfGiven_38 rfl ?_
    refine xr_getR dX8_refusalOfGiven_39 fk_8_33 lay_0 rfl ?_
    refine xr_getIv dX8_refusalOfGiven_42 fk_8_102 lay_21 rfl hm.1.2.2.1 ?_
    refine xr_icmp_le 50 dX8_refusalOfGiven_45 (by decide) (fun h2 => ?_) (fun h2 => ?_)
    rotate_left
    · rw [le_toInt, nI_toInt (by omega)] at h2
      exact K48 (by omega) _
    rw [le_toInt, nI_toInt (by omega)] at h2
    have rg' : ∀ u ∈ l.take (i + 1), -(mN M : Int) ≤ u.toInt ∧ u.toInt ≤ mN M := fun u hu => by
      rw [htk] at hu
      rcases List.mem_append.mp hu with q | q
      · exact rg u q
      · rw [List.mem_singleton.mp q]; omega
    have K71 : ∀ k' : Bool, k' = (k || (decide (t.toInt < 0) && !mB M (t2m t / 2))) → ∀ z3 : Option Value, xT G M_X8_refusalOfGiven (xMQ G (xpi fun v I' J' => v = refG M (ptoks a b c d) ∧ I = I' ∧ J = J')) 71 [some (.ref (G.1 0)), some (.int (if k' then -6 else 0)), some (.int (nI i)), z3] [] I J := by
      intro k' hk' z3
      refine xr_iinc dX8_refusalOfGiven_71 rfl ii_1 (Nat.le_of_ble_eq_true rfl) ?_
      show xT _ _ _ 74 [_, _, _, _] _ _ _
      refine xr_goto 4 dX8_refusalOfGiven_74 (by decide) ?_
      rw [k_1, nI_add]
      refine IH k' _ nz' rg' ?_
      rw [htk, List.any_append, ← hk, hk']
      simp
    obtain ⟨t1, t2, t3, t4⟩ := t2m_tok (n := mN M) hN8 hz (by omega) h2
    refine xr_iload3 dX8_refusalOfGiven_50 rfl ?_
    refine xr_if_ge 71 dX8_refusalOfGiven_51 (by decide) (fun h3 => ?_) (fun h3 => ?_)
    · rw [le_toInt, ti_0] at h3
      have : decide (t.toInt < 0) = false := decide_eq_false (by omega)
      exact K71 k (by rw [this]; simp) _
    rw [le_toInt, ti_0] at h3
    have hd : decide (t.toInt < 0) = true := decide_eq_true (by omega)
    have hodd : t2m t % 2 = 1 := t3.mpr (by omega)
    have harg : -t - 1 = nI (t2m t / 2) := by
      conv => lhs; rw [← t1]
      unfold tok
      rw [if_neg (by omega), Int32.neg_neg, k_1, pk_sub (by omega)]
      rfl
    refine xr_aload0 dX8_refusalOfGiven_54 rfl ?_
    refine xr_getR dX8_refusalOfGiven_55 fk_8_33 lay_0 rfl ?_
    refine xr_iload3 dX8_refusalOfGiven_58 rfl ?_
    refine xr_ineg dX8_refusalOfGiven_59 ?_
    refine xr_ic1 dX8_refusalOfGiven_60 ?_
    refine xr_isub dX8_refusalOfGiven_61 ?_
    rw [harg]
    refine xr_cVi [_] dX8_refusalOfGiven_62 (xcv_of cf_X3_isBack ml_8_127 (by decide)) rfl lay_21 rfl rfl rfl (Nat.le_of_ble_eq_true rfl) (c3_isBack hm.2.1 (by omega)) (fun v I1 J1 hc1 => ?_)
    obtain ⟨rfl, rfl, rfl⟩ := hc1
    refine xr_if_ne 71 dX8_refusalOfGiven_65 (by decide) (fun hb => ?_) (fun hb => ?_)
    · have hb : mB M (t2m t / 2) = true := by
        cases hq : mB M (t2m t / 2) with
        | true => rfl
        | false => rw [hq] at hb; exact absurd rfl hb
      exact K71 k (by rw [hb]; simp) _
    have hb := b2_0.mp hb
    refine xr_bip bi_m6 dX8_refusalOfGiven_68 ?_
    refine xr_istore1 dX8_refusalOfGiven_70 (Nat.le_of_ble_eq_true rfl) ?_
    show xT _ _ _ 71 [_, _, _, _] _ _ _
    exact K71 true (by rw [hb, hd]; simp) _
  refine x_ent (by decide) (Nat.le_of_ble_eq_true rfl) rfl ?_
  show xT _ _ _ 0 [_, _, _, _] _ _ _
  refine xr_ic0 dX8_refusalOfGiven_0 ?_
  refine xr_istore1 dX8_refusalOfGiven_1 (Nat.le_of_ble_eq_true rfl) ?_
  show xT _ _ _ 2 [_, _, _, _] _ _ _
  refine xr_ic0 dX8_refusalOfGiven_2 ?_
  refine xr_istore2 dX8_refusalOfGiven_3 (Nat.le_of_ble_eq_true rfl) ?_
  show xT _ _ _ 4 [_, _, _, _] _ _ _
  exact L 0 (by decide) false _ (fun j hj => absurd hj (Nat.not_lt_zero _)) (fun t ht => by simp at ht) rfl
theorem mem_tw {α : Type} {p : α → Bool} : ∀ {l : List α} {t : α}, t ∈ l.takeWhile p → p t = true
  | [], t, h => by simp at h
  | a :: l, t, h => by
    rw [List.takeWhile_cons] at h
    split at h
    · rename_i hp
      rcases List.mem_cons.mp h with q | q
      · rw [q]; exact hp
      · exact mem_tw q
    · cases h
theorem sp_w {S : xSt} {I : xI} {J : xJ} (h : cSp I J S.2.1 S.2.2) (hM : mOk S.2.1) {w : Nat} (hw : w < 8) : cWd I J (12 + w) (S.2.2 w) ∧ w16 (S.2.2 w) ∧ wRed (S.2.2 w) ∧ wOk S.2.1 (S.2.2 w) := ⟨(h w hw).1, (h w hw).2.w16 hM, (h w hw).2.2.1, (h w hw).2.2.2⟩
theorem c8_put {S : xSt} (spot a b c d : Int32) (hm : cMc I S.2.1) (hp : cSp I J S.2.1 S.2.2) : xCon G M_X8_put [.ref (G.1 0), .int spot, .int a, .int b, .int c, .int d] I J (xpi fun v I' J' => cPo S (sp_put S spot a b c d) v I J I' J') := by
  have hM := hm.1.1
  have hN8 := hM.2.2.1
  refine x_ent (by decide) (Nat.le_of_ble_eq_true rfl) rfl ?_
  show xT _ _ _ 0 [_, _, _, _, _, _, _, _] _ _ _
  refine xr_iload1 dX8_put_0 rfl ?_
  refine xr_cSi [_] dX8_put_1 (xcs_of cf_X8_isSpot ml_8_145 (by decide)) rfl rfl (Nat.le_of_ble_eq_true rfl) (c8_isSpot spot) (fun v I1 J1 hc => ?_)
  obtain ⟨rfl, rfl, rfl⟩ := hc
  refine xr_if_ne 9 dX8_put_4 (by decide) (fun hr => ?_) (fun hr => ?_)
  rotate_left
  · have hr := is_n hr
    refine xr_icm1 dX8_put_7 ?_
    refine xr_iret dX8_put_8 rfl rfl (cPo.no hp (by unfold sp_put; rw [hr]) cfx.rf)
  obtain ⟨w, hr⟩ := is_s hr
  obtain ⟨hw8, rfl⟩ := ix_some hr
  obtain ⟨hwd, hw16, hwr, hwo⟩ := sp_w hp hM hw8
  refine xr_aload0 dX8_put_9 rfl ?_
  refine xr_getR dX8_put_10 fk_8_21 lay_0 rfl ?_
  refine xr_ic0 dX8_put_13 ?_
  refine xr_iload2 dX8_put_14 rfl ?_
  refine xr_iast 0 dX8_put_15 lay_3 rfl (by decide) (by decide) ?_
  refine xr_aload0 dX8_put_16 rfl ?_
  refine xr_getR dX8_put_17 fk_8_21 lay_0 rfl ?_
  refine xr_ic1 dX8_put_20 ?_
  refine xr_iload3 dX8_put_21 rfl ?_
  refine xr_iast 1 dX8_put_22 lay_3 rfl (by decide) (by decide) ?_
  refine xr_aload0 dX8_put_23 rfl ?_
  refine xr_getR dX8_put_24 fk_8_21 lay_0 rfl ?_
  refine xr_ic2 dX8_put_27 ?_
  refine xr_iload dX8_put_28 rfl ?_
  refine xr_iast 2 dX8_put_30 lay_3 rfl (by decide) (by decide) ?_
  refine xr_aload0 dX8_put_31 rfl ?_
  refine xr_getR dX8_put_32 fk_8_21 lay_0 rfl ?_
  refine xr_ic3 dX8_put_35 ?_
  refine xr_iload dX8_put_36 rfl ?_
  refine xr_iast 3 dX8_put_38 lay_3 rfl (by decide) (by decide) ?_
  generalize hI1 : va_up (va_up (va_up (va_up I 3 (upd (I 3) 0 a)) 3 (upd (va_up I 3 (upd (I 3) 0 a) 3) 1 b)) 3 (upd (va_up (va_up I 3 (upd (I 3) 0 a)) 3 (upd (va_up I 3 (upd (I 3) 0 a) 3) 1 b) 3) 2 c)) 3 (upd (va_up (va_up (va_up I 3 (upd (I 3) 0 a)) 3 (upd (va_up I 3 (upd (I 3) 0 a) 3) 1 b)) 3 (upd (va_up (va_up I 3 (upd (I 3) 0 a)) 3 (upd (va_up I 3 (upd (I 3) 0 a) 3) 1 b) 3) 2 c) 3) 3 d) = I1
  have f1 : cfx [3] I J I1 J := by rw [← hI1]; exact (((cfx.rf.up _ (by simp)).up _ (by simp)).up _ (by simp)).up _ (by simp)
  have g1 : ∀ j, j < 4 → I1 3 j = [a, b, c, d].getD j 0 := fun j hj => by
    rw [← hI1]
    simp only [up_same]
    rcases (show j = 0 ∨ j = 1 ∨ j = 2 ∨ j = 3 by omega) with rfl | rfl | rfl | rfl
    · rw [upd_ne _ _ (by decide), upd_ne _ _ (by decide), upd_ne _ _ (by decide), upd_same]; rfl
    · rw [upd_ne _ _ (by decide), upd_ne _ _ (by decide), upd_same]; rfl
    · rw [upd_ne _ _ (by decide), upd_same]; rfl
    · rw [upd_same]; rfl
  have m1 := f1.mc hm (by decide)
  have d1 := f1.wd hwd (by simp; omega)
  refine xr_aload0 dX8_put_39 rfl ?_
  refine xr_cVi [] dX8_put_40 (xcv_of cf_X8_refusalOfGiven ml_8_148 (by decide)) rfl lay_0 rfl rfl rfl (Nat.le_of_ble_eq_true rfl) (c8_refusalOfGiven m1 g1) (fun v I2 J2 hc => ?_)
  obtain ⟨rfl, rfl, rfl⟩ := hc
  have e : sp_put S (nI w) a b c d = if refG S.2.1 (ptoks a b c d) = 0 then (if 16 < (wapp (S.2.2 w) ((ptoks a b c d).map t2m)).length then (-2, S) else (nI (wapp (S.2.2 w) ((ptoks a b c d).map t2m)).length, (S.1, S.2.1, va_up S.2.2 w (wapp (S.2.2 w) ((ptoks a b c d).map t2m))))) else (refG S.2.1 (ptoks a b c d), S) := by
    unfold sp_put refG
    rw [hr]
    simp only
    split
    · rw [if_neg (by decide)]
    · split
      · rw [if_neg (by decide)]
      · rw [if_pos rfl]
  refine xr_istore dX8_put_43 (Nat.le_of_ble_eq_true rfl) ?_
  show xT _ _ _ 45 [_, _, _, _, _, _, _, _] _ _ _
  refine xr_iload dX8_put_45 rfl ?_
  refine xr_if_ge 53 dX8_put_47 (by decide) (fun h0 => ?_) (fun h0 => ?_)
  rotate_left
  · have hne : ¬ refG S.2.1 (ptoks a b c d) = 0 := fun q => h0 (by rw [q]; decide)
    rw [if_neg hne] at e
    refine xr_iload dX8_put_50 rfl ?_
    refine xr_iret dX8_put_52 rfl rfl (cPo.no hp e (f1.mono (by simp)))
  have hok0 : refG S.2.1 (ptoks a b c d) = 0 ∧ (ptoks a b c d).all (fun t => decide (-(mN S.2.1 : Int) ≤ t.toInt ∧ t.toInt ≤ mN S.2.1)) = true ∧ (ptoks a b c d).any (fun t => decide (t.toInt < 0) && !mB S.2.1 (t2m t / 2)) = false := by
    unfold refG at h0 ⊢
    split at h0
    · exact absurd h0 (by decide)
    · split at h0
      · exact absurd h0 (by decide)
      · rename_i q1 q2
        exact ⟨by rw [if_neg q1, if_neg q2], by simpa using q1, by simpa using q2⟩
  obtain ⟨hz, hall, hany⟩ := hok0
  rw [if_pos hz] at e
  have hmk : ∀ t ∈ ptoks a b c d, tok (t2m t) = t ∧ t2m t < 16 ∧ mOkm S.2.1 (t2m t) := fun t ht => by
    have h1 := of_decide_eq_true (List.all_eq_true.mp hall t ht)
    have h2 := List.any_eq_false.mp hany t ht
    have hne : t ≠ 0 := by
      have := mem_tw ht
      simpa using this
    obtain ⟨t1, t2, t3, t4⟩ := t2m_tok hN8 hne h1.1 h1.2
    refine ⟨t1, by omega, t2, fun q => ?_⟩
    have hneg := t3.mp q
    cases hq : mB S.2.1 (t2m t / 2) with
    | true => exact mB_iff.mp hq
    | false => exact absurd (by simp [hneg, hq]) h2
  refine xr_aload0 dX8_put_53 rfl ?_
  refine xr_getR dX8_put_54 fk_8_26 lay_0 rfl ?_
  refine xr_cVv [] dX8_put_57 (xcv_of cf_X7_empty ml_8_95 (by decide)) rfl lay_20 rfl rfl rfl (Nat.le_of_ble_eq_true rfl) (c7_empty (show isW 20 from rfl)) (fun I2 J2 hc => ?_)
  obtain ⟨d2, f2⟩ := hc
  have f02 : cfx [3, 20] I J I2 J2 := (f1.mono (by simp)).tr (f2.mono (by simp))
  have g2 : ∀ j, j < 4 → I2 3 j = [a, b, c, d].getD j 0 := fun j hj => by rw [(f2 3 (by decide)).1]; exact g1 j hj
  generalize hL : [a, b, c, d] = l at g2
  have hl4 : l.length = 4 := by rw [← hL]; rfl
  have hpt : ∀ n, n ≤ 4 → (∀ j, j < n → l.getD j 0 ≠ 0) → (n < 4 → l.getD n 0 = 0) → ptoks a b c d = l.take n := fun n h1 h2 h3 => by rw [← hL]; rw [← hL] at h2 h3; exact ptoks_take h1 h2 h3
  have L : ∀ i, i ≤ 4 → ∀ I3 J3 (z6 : Int32), cfx [3, 20] I J I3 J3 → (∀ j, j < 4 → I3 3 j = l.getD j 0) → cWd I3 J3 20 (wapp [] ((l.take i).map t2m)) → (∀ j, j < i → l.getD j 0 ≠ 0) → xT G M_X8_put (xMQ G (xpi fun v I' J' => cPo S (sp_put S (nI w) a b c d) v I J I' J')) 63 [some (.ref (G.1 0)), some (.int (nI w)), some (.int a), some (.int b), some (.int c), some (.int d), some (.int z6), some (.int (nI i))] [] I3 J3 := by
    refine x_for (fun i hi IH I3 J3 z6 f3 g3 d3 nz => ?_)
    have K103 : ptoks a b c d = l.take i → xT G M_X8_put (xMQ G (xpi fun v I' J' => cPo S (sp_put S (nI w) a b c d) v I J I' J')) 103 [some (.ref (G.1 0)), some (.int (nI w)), some (.int a), some (.int b), some (.int c), some (.int d), some (.int z6), some (.int (nI i))] [] I3 J3 := by
      intro ep
      rw [ep] at e hmk
      have hW := isW_s w hw8
      have hok : wOk S.2.1 ((l.take i).map t2m) := fun m hm => by
        obtain ⟨t, ht, rfl⟩ := List.mem_map.mp hm
        exact (hmk t ht).2.2
      have hok2 := wapp_ok (M := S.2.1) ((l.take i).map t2m) [] (fun m hm => by cases hm) hok
      have hred := wapp_red ((l.take i).map t2m) [] wRed.nil
      have hlen := wapp_len ((l.take i).map t2m) []
      rw [List.length_nil, Nat.zero_add] at hlen
      have hlen2 : ((l.take i).map t2m).length ≤ 4 := by rw [List.length_map, List.length_take]; omega
      have hww := wapp_wapp hwr ((l.take i).map t2m)
      refine xr_aload0 dX8_put_103 rfl ?_
      refine xr_aload0 dX8_put_104 rfl ?_
      refine xr_getR dX8_put_105 fk_8_17 lay_0 rfl ?_
      refine xr_iload1 dX8_put_108 rfl ?_
      refine xr_aald4 w dX8_put_109 lay_2 rfl hw8 (by decide) ?_
      refine xr_aload0 dX8_put_110 rfl ?_
      refine xr_getR dX8_put_111 fk_8_26 lay_0 rfl ?_
      refine xr_iload1 dX8_put_114 rfl ?_
      show xT _ _ _ 115 _ _ _ _
      refine xr_cVi [_, _, _] dX8_put_115 (xcv_of cf_X8_join ml_8_159 (by decide)) rfl lay_0 rfl rfl rfl (Nat.le_of_ble_eq_true rfl) (c8_join hW (show isW 20 from rfl) (by omega) (f3.wd hwd (by simp; omega)) d3 hw16 ⟨by omega, wOk16 hM hok2⟩ hred hw8) (fun v I4 J4 hc4 => ?_)
      rw [hww] at hc4
      rcases hc4 with ⟨h16, rfl, f4⟩ | ⟨h16, rfl, d4, f4⟩
      · rw [if_pos h16] at e
        refine xr_iret dX8_put_118 rfl rfl (cPo.no hp e (f3.tr (f4.mono (by simp))))
      · rw [if_neg (by omega)] at e
        refine xr_iret dX8_put_118 rfl rfl (cPo.yes hw8 hp e d4 ⟨h16, wapp_red _ _ hwr, wapp_ok _ _ hwo hok⟩ ((f3.mono (by simp)).tr (f4.mono (by simp))))
    refine xr_iload dX8_put_63 rfl ?_
    refine xr_ic4 dX8_put_65 ?_
    refine xr_icmp_ge 103 dX8_put_66 (by decide) (fun hc => ?_) (fun hc => ?_)
    · have : i = 4 := by have := nle (b := 4) hc; omega
      subst this
      exact K103 (hpt 4 (by omega) nz (fun q => by omega))
    have hi4 := nlt (b := 4) hc
    have IH := IH hi4
    have hv := g3 i hi4
    refine xr_aload0 dX8_put_69 rfl ?_
    refine xr_getR dX8_put_70 fk_8_21 lay_0 rfl ?_
    refine xr_iload dX8_put_73 rfl ?_
    refine xr_ialdv i dX8_put_75 lay_3 rfl hi4 (by decide) hv ?_
    refine xr_if_eq 103 dX8_put_76 (by decide) (fun hz0 => ?_) (fun hz0 => ?_)
    · exact K103 (hpt i (by omega) nz (fun _ => hz0))
    have hgd : l.getD i 0 = l[i]'(by omega) := by rw [List.getD_eq_getElem?_getD, List.getElem?_eq_getElem (by omega)]; rfl
    have htk : l.take (i + 1) = l.take i ++ [l.getD i 0] := by rw [List.take_succ_eq_append_getElem (by omega), hgd]
    have nz' : ∀ j, j < i + 1 → l.getD j 0 ≠ 0 := fun j hj => by
      rcases Nat.lt_or_ge j i with q | q
      · exact nz j q
      · have : j = i := by omega
        subst this
        exact hz0
    have hsub : ∀ t ∈ l.take (i + 1), t ∈ ptoks a b c d := by
      have key : ∀ f n, n + f = 4 → i < n → (∀ j, j < n → l.getD j 0 ≠ 0) → ∃ n, i < n ∧ n ≤ 4 ∧ ptoks a b c d = l.take n := by
        intro f
        induction f with
        | zero => exact fun n h1 h2 h3 => ⟨n, h2, by omega, hpt n (by omega) h3 (fun q => by omega)⟩
        | succ f IHf =>
          intro n h1 h2 h3
          by_cases q : l.getD n 0 = 0
          · exact ⟨n, h2, by omega, hpt n (by omega) h3 (fun _ => q)⟩
          · exact IHf (n + 1) (by omega) (by omega) (fun j hj => by
              rcases Nat.lt_or_ge j n with g | g
              · exact h3 j g
              · have : j = n := by omega
                rw [this]; exact q)
      obtain ⟨n, h1, h2, h3⟩ := key (4 - (i + 1)) (i + 1) (by omega) (by omega) nz'
      intro t ht
      rw [h3]
      exact (List.take_prefix_take_left (by omega)).subset ht
    have htm := hmk (l.getD i 0) (hsub _ (by rw [htk]; simp))
    have hlen := wapp_len ((l.take i).map t2m) []
    rw [List.length_nil, Nat.zero_add] at hlen
    have hlen2 : ((l.take i).map t2m).length ≤ i := by rw [List.length_map, List.length_take]; omega
    have hd16 : d16 (wapp [] ((l.take i).map t2m)) := wOk16 hM (wapp_ok (M := S.2.1) ((l.take i).map t2m) [] (fun m hm => by cases hm) (fun m hm => by
      obtain ⟨t, ht, rfl⟩ := List.mem_map.mp hm
      exact (hmk t (hsub t (by rw [htk]; exact List.mem_append_left _ ht))).2.2))
    have hpl := wpush_len (wapp [] ((l.take i).map t2m)) (t2m (l.getD i 0))
    refine xr_aload0 dX8_put_79 rfl ?_
    refine xr_getR dX8_put_80 fk_8_26 lay_0 rfl ?_
    refine xr_aload0 dX8_put_83 rfl ?_
    refine xr_getR dX8_put_84 fk_8_21 lay_0 rfl ?_
    refine xr_iload dX8_put_87 rfl ?_
    refine xr_ialdv i dX8_put_89 lay_3 rfl hi4 (by decide) hv ?_
    rw [← htm.1]
    refine xr_cSi [_] dX8_put_90 (xcs_of cf_X8_markOf ml_8_152 (by decide)) rfl rfl (Nat.le_of_ble_eq_true rfl) (c8_markOf htm.2.1) (fun v I4 J4 hc4 => ?_)
    obtain ⟨rfl, rfl, rfl⟩ := hc4
    refine xr_cVi [_] dX8_put_93 (xcv_of cf_X7_push ml_8_156 (by decide)) rfl lay_20 rfl rfl rfl (Nat.le_of_ble_eq_true rfl) (c7_push (show isW 20 from rfl) d3 ⟨by omega, hd16⟩ htm.2.1) (fun v I4 J4 hc4 => ?_)
    rcases hc4 with ⟨hbad, -⟩ | ⟨hgood, rfl, d4, f4⟩
    · omega
    refine xr_pop dX8_put_96 rfl ?_
    refine xr_iinc dX8_put_97 rfl ii_1 (Nat.le_of_ble_eq_true rfl) ?_
    show xT _ _ _ 100 [_, _, _, _, _, _, _, _] _ _ _
    refine xr_goto 63 dX8_put_100 (by decide) ?_
    rw [k_1, nI_add]
    refine IH I4 J4 z6 (f3.tr (f4.mono (by simp))) (fun j hj => by rw [(f4 3 (by decide)).1]; exact g3 j hj) ?_ nz'
    rw [htk, List.map_append, List.map_cons, List.map_nil, wapp_snoc]
    exact d4
  refine xr_ic0 dX8_put_60 ?_
  refine xr_istore dX8_put_61 (Nat.le_of_ble_eq_true rfl) ?_
  show xT _ _ _ 63 [_, _, _, _, _, _, _, _] _ _ _
  exact L 0 (by decide) I2 J2 _ f02 g2 d2 (fun j hj => absurd hj (Nat.not_lt_zero _))
end C12
