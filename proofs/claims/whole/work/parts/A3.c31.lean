section C31
variable {G : xG} {I : xI} {J : xJ}
def orbS (M : xMac) (n p x : Nat) : Prop := ∃ p', p' < p ∧ conn (bst M n) p' x
theorem orbS.conn {M : xMac} {n p x y : Nat} (h : orbS M n p x) (hc : conn (bst M n) x y) : orbS M n p y := by
  obtain ⟨p', h1, h2⟩ := h
  exact ⟨p', h1, h2.tr hc⟩
theorem orb_next {M : xMac} (hM : mOk M) (hwh : mWhole M) {n p : Nat} {q : List Nat} {par tt dl : Nat → Nat} (b : bfs M n (fun m => !true || mB M (m / 2)) (orbS M n p) p q par tt dl q.length 0) (x : Nat) : orbS M n (p + 1) x ↔ (x ∈ q ∨ orbS M n p x) := by
  have hin : ∀ (i y : Nat), q[i]? = some y → conn (bst M n) p y := by
    intro i
    induction i using x_lt with
    | h i IH =>
      intro y hy
      obtain ⟨hi, -⟩ := List.getElem?_eq_some_iff.mp hy
      rcases Nat.eq_zero_or_pos i with e | e
      · subst e
        have := b.1.1
        rw [hy] at this
        rw [Option.some.inj this]; exact conn.rf
      · obtain ⟨c1, -, c3, c4, c5, -⟩ := b.2.1.2 i e hi
        have hpl : par i < q.length := by omega
        have hpar : q[par i]? = some (q.getD (par i) 0) := by
          rw [List.getD_eq_getElem?_getD, List.getElem?_eq_getElem hpl]; rfl
        have hN := (b.1.2.2 _ (List.mem_of_getElem? hpar)).1
        rw [hy] at c5
        refine (IH (par i) c1 _ hpar).tr (conn.one (Or.inl ⟨hN, mk_ M (tt i), by rw [mk_at c3]; exact List.getElem_mem _, mB_iff.mp c4, Option.some.inj c5⟩))
  have hfw : ∀ m ∈ mMarks M, mBack M (m / 2) → ∀ y, y < mK M ^ n → (y ∈ q ∨ orbS M n p y) → (mkp M n m y ∈ q ∨ orbS M n p (mkp M n m y)) := by
    intro m hm hb y hy h
    rcases h with h | h
    · obtain ⟨i, hi, rfl⟩ := List.getElem_of_mem h
      obtain ⟨t, ht, rfl⟩ := List.getElem_of_mem hm
      have hgd : q.getD i 0 = q[i] := by rw [List.getD_eq_getElem?_getD, List.getElem?_eq_getElem hi]; rfl
      rcases b.2.2.1 i t hi ht (Or.inl hi) (by show (!true || mB M (mk_ M t / 2)) = true; rw [mk_at ht, mB_iff.mpr hb]; rfl) with r | ⟨i', r1, -⟩
      · rw [mk_at ht, hgd] at r; exact Or.inr r
      · rw [mk_at ht, hgd] at r1; exact Or.inl (List.mem_of_getElem? r1)
    · exact Or.inr (h.conn (conn.one (Or.inl ⟨hy, m, hm, hb, rfl⟩)))
  constructor
  · rintro ⟨p', hp', hc⟩
    rcases Nat.lt_or_ge p' p with g | g
    · exact Or.inr ⟨p', g, hc⟩
    · have : p' = p := by omega
      subst this
      have hp0 := (b.1.2.2 p' (List.mem_of_getElem? b.1.1)).1
      have := hc (fun y => y < mK M ^ n ∧ (y ∈ q ∨ orbS M n p' y)) ⟨hp0, Or.inl (List.mem_of_getElem? b.1.1)⟩ (fun a c hac ha => ?_)
      · exact this.2
      · rcases hac with ⟨h1, m, hm, hb, rfl⟩ | ⟨h1, m, hm, hb, rfl⟩
        · exact ⟨mkp_lt hM hwh hb.okm, hfw m hm hb a h1 ha.2⟩
        · refine ⟨h1, ?_⟩
          have pm := mkp_pm (n := n) hM hwh hb
          obtain ⟨c1, -, c3, -⟩ := cyc_spec pm h1
          have hit : ∀ k, itr (mkp M n m) k (mkp M n m c) < mK M ^ n ∧ (itr (mkp M n m) k (mkp M n m c) ∈ q ∨ orbS M n p' (itr (mkp M n m) k (mkp M n m c))) := by
            intro k
            induction k with
            | zero => exact ha
            | succ k IH => rw [itr_succ]; exact ⟨mkp_lt hM hwh hb.okm, hfw m hm hb _ IH.1 IH.2⟩
          have := (hit (cyc (mkp M n m) (mK M ^ n) c - 1)).2
          have e : itr (mkp M n m) (cyc (mkp M n m) (mK M ^ n) c - 1) (mkp M n m c) = c := by
            show itr (mkp M n m) (cyc (mkp M n m) (mK M ^ n) c - 1 + 1) c = c
            rw [show cyc (mkp M n m) (mK M ^ n) c - 1 + 1 = cyc (mkp M n m) (mK M ^ n) c by omega]
            exact c3
          rw [e] at this
          exact this
  · rintro (h | ⟨p', hp', hc⟩)
    · obtain ⟨i, hi, rfl⟩ := List.getElem_of_mem h
      exact ⟨p, by omega, hin i _ (List.getElem?_eq_getElem hi)⟩
    · exact ⟨p', by omega, hc⟩
theorem c2_countBackOrbits {M : xMac} (hm : cMc I M) (hwh : mWhole M) {n bt : Nat} (hn : mK M ^ n ≤ 256) (htb : cTb I M bt) (hbt : n < bt) : xCon G M_X2_countBackOrbits [.ref (G.1 27), .ref (G.1 21), .int (nI n)] I J (xpi fun v I' J' => v = nI (cnt (orbF M n) (mK M ^ n)) ∧ (∀ a, a ∉ [31, 32, 33, 34] → I' a = I a) ∧ J = J') := by
  have hM := hm.1.1
  have hK2 := hM.1
  have hn8 := lvl_8 hK2 hn
  have t1 := (htb n hbt).1
  have L : ∀ p, p ≤ mK M ^ n → ∀ I1, (∀ a, a ∉ [31, 32, 33, 34] → I1 a = I a) → (∀ x, x < mK M ^ n → (I1 31 x < 0 ↔ ¬ orbS M n p x)) → xT G M_X2_countBackOrbits (xMQ G (xpi fun v I' J' => v = nI (cnt (orbF M n) (mK M ^ n)) ∧ (∀ a, a ∉ [31, 32, 33, 34] → I' a = I a) ∧ J = J')) 9 [some (.ref (G.1 27)), some (.ref (G.1 21)), some (.int (nI n)), some (.int (nI (cnt (orbF M n) p))), some (.int (nI p))] [] I1 J := by
    refine x_for (fun p hp IH I1 e1 d1 => ?_)
    have v29 : I1 29 n = nI (mK M ^ n) := by rw [e1 29 (by decide)]; exact t1
    refine xr_iload dX2_countBackOrbits_9 rfl ?_
    refine xr_aload0 dX2_countBackOrbits_11 rfl ?_
    refine xr_getR dX2_countBackOrbits_12 fk_2_15 lay_27 rfl ?_
    refine xr_iload2 dX2_countBackOrbits_15 rfl ?_
    refine xr_ialdv n dX2_countBackOrbits_16 lay_29 rfl (by omega) (by decide) v29 ?_
    refine xr_icmp_ge 49 dX2_countBackOrbits_17 (by decide) (fun hge => ?_) (fun hge => ?_)
    · have : p = mK M ^ n := by have := nle hge; omega
      subst this
      refine xr_iload3 dX2_countBackOrbits_49 rfl ?_
      refine xr_iret dX2_countBackOrbits_50 rfl rfl ⟨rfl, e1, rfl⟩
    have hpl := nlt hge
    have IH := IH hpl
    have hcs : cnt (orbF M n) (p + 1) = cnt (orbF M n) p + cond (orbF M n p) 1 0 := rfl
    have hdp := d1 p hpl
    have hcl := cnt_le (orbF M n) p
    refine xr_aload0 dX2_countBackOrbits_20 rfl ?_
    refine xr_getR dX2_countBackOrbits_21 fk_2_21 lay_27 rfl ?_
    refine xr_iload dX2_countBackOrbits_24 rfl ?_
    refine xr_iald p dX2_countBackOrbits_26 lay_31 rfl (by omega) (by decide) ?_
    refine xr_if_ge 43 dX2_countBackOrbits_27 (by decide) (fun hv => ?_) (fun hv => ?_)
    · have hS : orbS M n p p := by
        refine Classical.byContradiction (fun q => ?_)
        have := hdp.mpr q
        rw [lt_toInt, ti_0] at this
        rw [le_toInt, ti_0] at hv
        omega
      have ho : orbF M n p = false := by
        cases hq : orbF M n p with
        | false => rfl
        | true =>
          obtain ⟨p', h1, h2⟩ := hS
          exact absurd h2 (orbF_iff.mp hq p' h1)
      rw [hcs, ho] at IH
      refine xr_iinc dX2_countBackOrbits_43 rfl ii_1 (Nat.le_of_ble_eq_true rfl) ?_
      show xT _ _ _ 46 [_, _, _, _, _] _ _ _
      refine xr_goto 9 dX2_countBackOrbits_46 (by decide) ?_
      rw [k_1, nI_add]
      refine IH I1 e1 (fun x hx => ?_)
      rw [d1 x hx]
      have : orbS M n (p + 1) x ↔ orbS M n p x := by
        constructor
        · rintro ⟨p', hp', hc⟩
          rcases Nat.lt_or_ge p' p with g | g
          · exact ⟨p', g, hc⟩
          · have : p' = p := by omega
            subst this
            exact hS.conn hc
        · rintro ⟨p', hp', hc⟩
          exact ⟨p', by omega, hc⟩
      rw [this]
    have hS : ¬ orbS M n p p := hdp.mp (by rw [lt_toInt, ti_0]; rw [le_toInt, ti_0] at hv; omega)
    have ho : orbF M n p = true := orbF_iff.mpr (fun p' hp' hc => hS ⟨p', hp', hc⟩)
    rw [hcs, ho] at IH
    have mc1 : cMc I1 M := hm.cg (fun a h1 h2 => e1 a (by simp only [List.mem_cons, List.not_mem_nil, or_false]; omega))
    have tb1 : cTb I1 M bt := fun j hj => by rw [e1 28 (by decide), e1 29 (by decide), e1 30 (by decide)]; exact htb j hj
    refine xr_aload0 dX2_countBackOrbits_30 rfl ?_
    refine xr_aload1 dX2_countBackOrbits_31 rfl ?_
    refine xr_iload2 dX2_countBackOrbits_32 rfl ?_
    refine xr_iload dX2_countBackOrbits_33 rfl ?_
    refine xr_ic1 dX2_countBackOrbits_35 ?_
    refine xr_cVi [_, _, _, _] dX2_countBackOrbits_36 (xcv_of cf_X2_spread ml_2_71 (by decide)) rfl lay_27 rfl rfl rfl (Nat.le_of_ble_eq_true rfl) (c2_spread mc1 hwh hn tb1 hbt hpl true (V := orbS M n p) (d0 := I1 31) (fun _ _ => rfl) d1 hS) (fun v I2 J2 hc2 => ?_)
    obtain ⟨⟨q, par, tt, dl, rfl, b, bm⟩, e2, rfl⟩ := hc2
    have hlen := b.len
    refine xr_pop dX2_countBackOrbits_39 rfl ?_
    refine xr_iinc dX2_countBackOrbits_40 rfl ii_1 (Nat.le_of_ble_eq_true rfl) ?_
    show xT _ _ _ 43 [_, _, _, _, _] _ _ _
    refine xr_iinc dX2_countBackOrbits_43 rfl ii_1 (Nat.le_of_ble_eq_true rfl) ?_
    show xT _ _ _ 46 [_, _, _, _, _] _ _ _
    refine xr_goto 9 dX2_countBackOrbits_46 (by decide) ?_
    rw [k_1, nI_add, nI_add]
    refine IH I2 (fun a ha => by rw [e2 a ha]; exact e1 a ha) (fun x hx => ?_)
    rw [orb_next hM hwh b x]
    by_cases hq : x ∈ q
    · obtain ⟨i, hi, rfl⟩ := List.getElem_of_mem hq
      have := b.dli i hi
      rw [(bm.1 i hi).2.1]
      exact ⟨fun h => absurd h (nI_pos (by omega)), fun h => absurd (Or.inl hq) h⟩
    · rw [bm.2 x hx hq, d1 x hx]
      exact ⟨fun h q => q.elim hq h, fun h q => h (Or.inr q)⟩
  refine x_ent (by decide) (Nat.le_of_ble_eq_true rfl) rfl ?_
  show xT _ _ _ 0 [_, _, _, _, _] _ _ _
  refine xr_ic0 dX2_countBackOrbits_0 ?_
  refine xr_istore3 dX2_countBackOrbits_1 (Nat.le_of_ble_eq_true rfl) ?_
  show xT _ _ _ 2 [_, _, _, _, _] _ _ _
  refine xr_aload0 dX2_countBackOrbits_2 rfl ?_
  refine xr_cVv [] dX2_countBackOrbits_3 (xcv_of cf_X2_forgetRows ml_2_68 (by decide)) rfl lay_27 rfl rfl rfl (Nat.le_of_ble_eq_true rfl) c2_forgetRows (fun I1 J1 hc => ?_)
  obtain ⟨h1, e1, rfl⟩ := hc
  refine xr_ic0 dX2_countBackOrbits_6 ?_
  refine xr_istore dX2_countBackOrbits_7 (Nat.le_of_ble_eq_true rfl) ?_
  show xT _ _ _ 9 [_, _, _, _, _] _ _ _
  refine L 0 (Nat.zero_le _) I1 (fun a ha => e1 a (fun q => ha (by rw [q]; simp))) (fun x hx => ?_)
  rw [h1 x (by omega)]
  exact ⟨fun _ ⟨p', hp', _⟩ => absurd hp' (Nat.not_lt_zero _), fun _ => by decide⟩
theorem c8_orbits {S : xSt} (n : Int32) (hm : cMc I S.2.1) (hlv : cLv I S.2.1) : xCon G M_X8_orbits [.ref (G.1 0), .int n] I J (xpi fun v I' J' => v = sp_orbits S n ∧ cLv I' S.2.1 ∧ cfx [27, 28, 29, 30, 31, 32, 33, 34] I J I' J') := by
  have hM := hm.1.1
  have hK2 := hM.1
  refine x_ent (by decide) (Nat.le_of_ble_eq_true rfl) rfl ?_
  show xT _ _ _ 0 [_, _] _ _ _
  refine xr_aload0 dX8_orbits_0 rfl ?_
  refine xr_getR dX8_orbits_1 fk_8_33 lay_0 rfl ?_
  refine xr_iload1 dX8_orbits_4 rfl ?_
  refine xr_sip si_256 dX8_orbits_5 ?_
  rw [k_256]
  refine xr_cVi [_, _] dX8_orbits_8 (xcv_of cf_X3_power ml_8_220 (by decide)) rfl lay_21 rfl rfl rfl (Nat.le_of_ble_eq_true rfl) (c3_power hm.1 n (by decide) (by decide)) (fun v I1 J1 hc => ?_)
  obtain ⟨rfl, rfl, rfl⟩ := hc
  cases hl : lvl (mK S.2.1) n 256 with
  | none =>
    refine xr_if_ne 16 dX8_orbits_11 (by decide) (fun hz => ?_) (fun hz => ?_)
    · exact absurd rfl hz
    refine xr_icm1 dX8_orbits_14 ?_
    refine xr_iret dX8_orbits_15 rfl rfl ⟨by simp [sp_orbits, hl], hlv, cfx.rf⟩
  | some n' =>
  obtain ⟨rfl, hn⟩ := lvl_some hl
  have hpos : 0 < mK S.2.1 ^ n' := Nat.pow_pos (by omega)
  refine xr_if_ne 16 dX8_orbits_11 (by decide) (fun hz => ?_) (fun hz => ?_)
  rotate_left
  · have := (nI_eq (b := 0) (by omega) (by decide)).mp hz; omega
  refine xr_aload0 dX8_orbits_16 rfl ?_
  refine xr_getR dX8_orbits_17 fk_8_33 lay_0 rfl ?_
  refine xr_getIv dX8_orbits_20 fk_8_139 lay_21 rfl hm.2.2.1 ?_
  refine xr_if_ne 29 dX8_orbits_23 (by decide) (fun hwh => ?_) (fun hwh => ?_)
  rotate_left
  · have hwh := b2_0.mp hwh
    refine xr_bip bi_m5 dX8_orbits_26 ?_
    refine xr_iret dX8_orbits_28 rfl rfl ⟨by simp [sp_orbits, hl, hwh], hlv, cfx.rf⟩
  have hwh : mW S.2.1 = true := by
    cases hq : mW S.2.1 with
    | true => rfl
    | false => rw [hq] at hwh; exact absurd rfl hwh
  have hwhole := mW_iff.mp hwh
  refine xr_aload0 dX8_orbits_29 rfl ?_
  refine xr_getR dX8_orbits_30 fk_8_40 lay_0 rfl ?_
  refine xr_aload0 dX8_orbits_33 rfl ?_
  refine xr_getR dX8_orbits_34 fk_8_33 lay_0 rfl ?_
  refine xr_iload1 dX8_orbits_37 rfl ?_
  refine xr_cVv [_, _] dX8_orbits_38 (xcv_of cf_X2_build ml_8_223 (by decide)) rfl lay_27 rfl rfl rfl (Nat.le_of_ble_eq_true rfl) (c2_build hm hwhole hn hlv) (fun I1 J1 hc => ?_)
  obtain ⟨lv1, ⟨bt, hbt, tb1⟩, e1, rfl⟩ := hc
  have f1 : cfx [27, 28, 29, 30, 31, 32, 33, 34] I J I1 J := fun a ha => ⟨e1 a (fun q => ha (by rw [q]; simp)) (fun q => ha (by rw [q]; simp)) (fun q => ha (by rw [q]; simp)) (fun q => ha (by rw [q]; simp)), rfl⟩
  refine xr_aload0 dX8_orbits_41 rfl ?_
  refine xr_getR dX8_orbits_42 fk_8_40 lay_0 rfl ?_
  refine xr_aload0 dX8_orbits_45 rfl ?_
  refine xr_getR dX8_orbits_46 fk_8_33 lay_0 rfl ?_
  refine xr_iload1 dX8_orbits_49 rfl ?_
  refine xr_cVi [_, _] dX8_orbits_50 (xcv_of cf_X2_countBackOrbits ml_8_230 (by decide)) rfl lay_27 rfl rfl rfl (Nat.le_of_ble_eq_true rfl) (c2_countBackOrbits (f1.mc hm (by decide)) hwhole hn tb1 hbt) (fun v I2 J2 hc => ?_)
  obtain ⟨rfl, e2, rfl⟩ := hc
  refine xr_iret dX8_orbits_53 rfl rfl ⟨by simp [sp_orbits, hl, hwh], lv1.cg (fun a h1 h2 => e2 a (by simp only [List.mem_cons, List.not_mem_nil, or_false]; omega)), f1.tr (fun a ha => ⟨e2 a (fun q => ha (by simp at q ⊢; omega)), rfl⟩)⟩
end C31
