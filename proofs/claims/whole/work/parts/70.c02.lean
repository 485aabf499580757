section C02
variable {G : xG} {I : xI} {J : xJ}
-- the machine of the class
def cMb (I : xI) (M : xMac) : Prop := mOk M ∧ I 21 6 = nI (mK M) ∧ I 21 7 = nI (mN M) ∧ ∀ s x, s < mN M → x < mK M → I 22 (4 * s + x) = nI (mWr M s x) ∧ I 23 (4 * s + x) = oI (mGo M s x)
def cBk (I : xI) (c : Nat → Bool) : Prop := ∀ i, i < 32 → tb (I 21 8) i = c i
def cMk (I : xI) (M : xMac) : Prop := I 21 5 = nI (mMarks M).length ∧ lrep (I 26) 0 (mMarks M) nI
def cW0 (I : xI) (M : xMac) (m x : Nat) : Prop := I 24 (4 * m + x) = nI (mw M m x) ∧ I 25 (4 * m + x) = oI (mg M m x)
def cWr (I : xI) (M : xMac) : Prop := ∀ m x, mOkm M m → x < mK M → cW0 I M m x
def cMc (I : xI) (M : xMac) : Prop := cMb I M ∧ cBk I (mB M) ∧ I 21 9 = b2 (mW M) ∧ cMk I M ∧ cWr I M
theorem cMc.cg {I I' : xI} {M : xMac} (h : cMc I M) (hI : ∀ a, 21 ≤ a → a ≤ 26 → I' a = I a) : cMc I' M := by
  obtain ⟨⟨a1, a2, a3, a4⟩, a5, a6, ⟨a7, a8⟩, a9⟩ := h
  have e21 := hI 21 (by decide) (by decide)
  have e22 := hI 22 (by decide) (by decide)
  have e23 := hI 23 (by decide) (by decide)
  have e24 := hI 24 (by decide) (by decide)
  have e25 := hI 25 (by decide) (by decide)
  have e26 := hI 26 (by decide) (by decide)
  refine ⟨⟨a1, by rw [e21]; exact a2, by rw [e21]; exact a3, by rw [e22, e23]; exact a4⟩, ?_, by rw [e21]; exact a6, ⟨by rw [e21]; exact a7, by rw [e26]; exact a8⟩, ?_⟩
  · unfold cBk; rw [e21]; exact a5
  · unfold cWr cW0; rw [e24, e25]; exact a9
theorem cfx.mc {A : List Nat} {I I' : xI} {J J' : xJ} {M : xMac} (f : cfx A I J I' J') (h : cMc I M) (hA : ∀ a ∈ A, a < 21 ∨ 26 < a) : cMc I' M := h.cg (fun a h1 h2 => (f a (fun q => by have := hA a q; omega)).1)
theorem ix_no {x : Int32} {n : Nat} (h : x.toInt < 0 ∨ (n : Int) ≤ x.toInt) : ix x n = none := by
  unfold ix
  rw [if_neg (by omega)]
theorem ix_in {x : Int32} {n : Nat} (h : ¬ x.toInt < 0) (h2 : ¬ (n : Int) ≤ x.toInt) : ix x n = some x.toInt.toNat := by
  unfold ix
  rw [if_pos (by omega)]
theorem ix_b0 {x : Int32} {n : Nat} (h : x.toInt < 0 ∨ (n : Int) ≤ x.toInt) : 0 = b2 (ix x n).isSome := by rw [ix_no h]; rfl
theorem ix_b1 {x : Int32} {n : Nat} (h : ¬ x.toInt < 0) (h2 : ¬ (n : Int) ≤ x.toInt) : 1 = b2 (ix x n).isSome := by rw [ix_in h h2]; rfl
theorem c3_isState {M : xMac} (h : cMb I M) (s : Int32) : xCon G M_X3_isState [.ref (G.1 21), .int s] I J (xpi fun v I' J' => v = b2 (ix s (mN M)).isSome ∧ I = I' ∧ J = J') := by
  have hN8 := h.1.2.2.1
  have hK4 := h.1.2.1
  refine x_ent (by decide) (Nat.le_of_ble_eq_true rfl) rfl ?_
  show xT _ _ _ 0 [_, _] _ _ _
  refine xr_iload1 dX3_isState_0 rfl ?_
  refine xr_if_lt 16 dX3_isState_1 (by decide) (fun h0 => ?_) (fun h0 => ?_)
  · rw [lt_toInt, ti_0] at h0
    refine xr_ic0 dX3_isState_16 ?_
    refine xr_zret dX3_isState_17 rfl rfl (by simp) ⟨ix_b0 (Or.inl h0), rfl, rfl⟩
  rw [lt_toInt, ti_0] at h0
  refine xr_iload1 dX3_isState_4 rfl ?_
  refine xr_aload0 dX3_isState_5 rfl ?_
  refine xr_getIv dX3_isState_6 fk_3_34 lay_21 rfl h.2.2.1 ?_
  refine xr_icmp_ge 16 dX3_isState_9 (by decide) (fun h1 => ?_) (fun h1 => ?_)
  · rw [le_toInt, nI_toInt (by omega)] at h1
    refine xr_ic0 dX3_isState_16 ?_
    refine xr_zret dX3_isState_17 rfl rfl (by simp) ⟨ix_b0 (Or.inr h1), rfl, rfl⟩
  rw [le_toInt, nI_toInt (by omega)] at h1
  refine xr_ic1 dX3_isState_12 ?_
  refine xr_goto 17 dX3_isState_13 (by decide) ?_
  refine xr_zret dX3_isState_17 rfl rfl (by simp) ⟨ix_b1 h0 h1, rfl, rfl⟩
theorem c3_isLetter {M : xMac} (h : cMb I M) (s : Int32) : xCon G M_X3_isLetter [.ref (G.1 21), .int s] I J (xpi fun v I' J' => v = b2 (ix s (mK M)).isSome ∧ I = I' ∧ J = J') := by
  have hN8 := h.1.2.2.1
  have hK4 := h.1.2.1
  refine x_ent (by decide) (Nat.le_of_ble_eq_true rfl) rfl ?_
  show xT _ _ _ 0 [_, _] _ _ _
  refine xr_iload1 dX3_isLetter_0 rfl ?_
  refine xr_if_lt 16 dX3_isLetter_1 (by decide) (fun h0 => ?_) (fun h0 => ?_)
  · rw [lt_toInt, ti_0] at h0
    refine xr_ic0 dX3_isLetter_16 ?_
    refine xr_zret dX3_isLetter_17 rfl rfl (by simp) ⟨ix_b0 (Or.inl h0), rfl, rfl⟩
  rw [lt_toInt, ti_0] at h0
  refine xr_iload1 dX3_isLetter_4 rfl ?_
  refine xr_aload0 dX3_isLetter_5 rfl ?_
  refine xr_getIv dX3_isLetter_6 fk_3_31 lay_21 rfl h.2.1 ?_
  refine xr_icmp_ge 16 dX3_isLetter_9 (by decide) (fun h1 => ?_) (fun h1 => ?_)
  · rw [le_toInt, nI_toInt (by omega)] at h1
    refine xr_ic0 dX3_isLetter_16 ?_
    refine xr_zret dX3_isLetter_17 rfl rfl (by simp) ⟨ix_b0 (Or.inr h1), rfl, rfl⟩
  rw [le_toInt, nI_toInt (by omega)] at h1
  refine xr_ic1 dX3_isLetter_12 ?_
  refine xr_goto 17 dX3_isLetter_13 (by decide) ?_
  refine xr_zret dX3_isLetter_17 rfl rfl (by simp) ⟨ix_b1 h0 h1, rfl, rfl⟩
theorem c3_isBack {c : Nat → Bool} (h : cBk I c) {s : Nat} (hs : s < 8) : xCon G M_X3_isBack [.ref (G.1 21), .int (nI s)] I J (xpi fun v I' J' => v = b2 (c s) ∧ I = I' ∧ J = J') := by
  have hb := h s (by omega)
  refine x_ent (by decide) (Nat.le_of_ble_eq_true rfl) rfl ?_
  show xT _ _ _ 0 [_, _] _ _ _
  refine xr_aload0 dX3_isBack_0 rfl ?_
  refine xr_getI dX3_isBack_1 fk_3_37 lay_21 rfl ?_
  refine xr_iload1 dX3_isBack_4 rfl ?_
  refine xr_ishr dX3_isBack_5 ?_
  refine xr_ic1 dX3_isBack_6 ?_
  refine xr_iand dX3_isBack_7 ?_
  refine xr_ic1 dX3_isBack_8 ?_
  refine xr_icmp_ne 16 dX3_isBack_9 (by decide) (fun h0 => ?_) (fun h0 => ?_)
  · skip
    refine xr_ic0 dX3_isBack_16 ?_
    refine xr_zret dX3_isBack_17 rfl rfl (by simp) ⟨?_, rfl, rfl⟩
    have : ¬ tb (I 21 8) s = true := fun q => h0 ((tb_back _ hs).mpr q)
    rw [← hb, Bool.not_eq_true _ |>.mp this]
    rfl
  refine xr_ic1 dX3_isBack_12 ?_
  refine xr_goto 17 dX3_isBack_13 (by decide) ?_
  refine xr_zret dX3_isBack_17 rfl rfl (by simp) ⟨?_, rfl, rfl⟩
  rw [← hb, (tb_back _ hs).mp h0]
  rfl
def gset (M : xMac) (s n i : Nat) : Bool := (List.range n).any (fun x => mGo M s x == some i)
theorem gset_succ (M : xMac) (s n i : Nat) : gset M s (n + 1) i = (gset M s n i || (mGo M s n == some i)) := by
  unfold gset
  rw [List.range_succ, List.any_append]
  simp
theorem c3_goals {M : xMac} (h : cMb I M) {s : Nat} (hs : s < mN M) : xCon G M_X3_goals [.ref (G.1 21), .int (nI s)] I J (xpi fun v I' J' => (∀ i, i < 32 → tb v i = gset M s (mK M) i) ∧ I = I' ∧ J = J') := by
  have hN8 := h.1.2.2.1
  have hK4 := h.1.2.1
  have L : ∀ x, x ≤ mK M → ∀ (v : Int32) (z4 : Option Value), (∀ i, i < 32 → tb v i = gset M s x i) → xT G M_X3_goals (xMQ G (xpi fun v I' J' => (∀ i, i < 32 → tb v i = gset M s (mK M) i) ∧ I = I' ∧ J = J')) 4 [some (.ref (G.1 21)), some (.int (nI s)), some (.int v), some (.int (nI x)), z4] [] I J := by
    refine x_for (fun x hx IH v z4 hv => ?_)
    refine xr_iload3 dX3_goals_4 rfl ?_
    refine xr_aload0 dX3_goals_5 rfl ?_
    refine xr_getIv dX3_goals_6 fk_3_31 lay_21 rfl h.2.1 ?_
    refine xr_icmp_ge 43 dX3_goals_9 (by decide) (fun hc => ?_) (fun hc => ?_)
    · have : x = mK M := by have := nle hc; omega
      subst this
      refine xr_iload2 dX3_goals_43 rfl ?_
      refine xr_iret dX3_goals_44 rfl rfl ⟨hv, rfl, rfl⟩
    have hxl := nlt hc
    have IH := IH hxl
    have hgo := (h.2.2.2 s x hs hxl).2
    have hgl := (h.1.2.2.2 s x hs hxl).2
    refine xr_aload0 dX3_goals_12 rfl ?_
    refine xr_getR dX3_goals_13 fk_3_15 lay_21 rfl ?_
    refine xr_iload1 dX3_goals_16 rfl ?_
    refine xr_ic4 dX3_goals_17 ?_
    refine xr_imul dX3_goals_18 ?_
    refine xr_iload3 dX3_goals_19 rfl ?_
    refine xr_iadd dX3_goals_20 ?_
    refine xr_ialdv (4 * s + x) dX3_goals_21 lay_23 (by rw [k_4, pk_mul, nI_add, Nat.mul_comm]) (by omega) (by decide) hgo ?_
    show xT _ _ _ 22 _ _ _ _
    refine xr_istore dX3_goals_22 (Nat.le_of_ble_eq_true rfl) ?_
    show xT _ _ _ 24 [_, _, _, _, _] _ _ _
    refine xr_iload dX3_goals_24 rfl ?_
    refine xr_icm1 dX3_goals_26 ?_
    refine xr_icmp_eq 37 dX3_goals_27 (by decide) (fun hg => ?_) (fun hg => ?_)
    · cases hq : mGo M s x with
      | none =>
        rw [hq] at hg
        refine xr_iinc dX3_goals_37 rfl ii_1 (Nat.le_of_ble_eq_true rfl) ?_
        show xT _ _ _ 40 [_, _, _, _, _] _ _ _
        refine xr_goto 4 dX3_goals_40 (by decide) ?_
        rw [k_1, nI_add]
        refine IH v _ (fun i hi => ?_)
        rw [hv i hi, gset_succ, hq]
        simp
      | some g =>
        rw [hq] at hg
        have := hgl g hq
        have := congrArg Int32.toInt hg
        rw [show oI (some g) = nI g from rfl, nI_toInt (by omega), ti_m1] at this
        omega
    cases hq : mGo M s x with
    | none => rw [hq] at hg; exact absurd rfl hg
    | some g =>
      have hg8 := hgl g hq
      refine xr_iload2 dX3_goals_30 rfl ?_
      refine xr_ic1 dX3_goals_31 ?_
      refine xr_iload dX3_goals_32 rfl ?_
      refine xr_ishl dX3_goals_34 ?_
      refine xr_ior dX3_goals_35 ?_
      refine xr_istore2 dX3_goals_36 (Nat.le_of_ble_eq_true rfl) ?_
      show xT _ _ _ 37 [_, _, _, _, _] _ _ _
      refine xr_iinc dX3_goals_37 rfl ii_1 (Nat.le_of_ble_eq_true rfl) ?_
      show xT _ _ _ 40 [_, _, _, _, _] _ _ _
      refine xr_goto 4 dX3_goals_40 (by decide) ?_
      show xT _ _ _ 4 _ _ _ _
      rw [k_1, nI_add]
      refine IH _ _ (fun i hi => ?_)
      rw [tb_or, hv i hi, show oI (some g) = nI g from rfl, ← k_1, tb_shl (by omega) hi, gset_succ, hq]
      congr 1
      rw [Bool.eq_iff_iff, beq_iff_eq, beq_iff_eq, Option.some.injEq]
      exact eq_comm
  refine x_ent (by decide) (Nat.le_of_ble_eq_true rfl) rfl ?_
  show xT _ _ _ 0 [_, _, _, _, _] _ _ _
  refine xr_ic0 dX3_goals_0 ?_
  refine xr_istore2 dX3_goals_1 (Nat.le_of_ble_eq_true rfl) ?_
  show xT _ _ _ 2 [_, _, _, _, _] _ _ _
  refine xr_ic0 dX3_goals_2 ?_
  refine xr_istore3 dX3_goals_3 (Nat.le_of_ble_eq_true rfl) ?_
  show xT _ _ _ 4 [_, _, _, _, _] _ _ _
  exact L 0 (Nat.zero_le _) 0 _ (fun i hi => tb_0 i)
def wset (M : xMac) (s n i : Nat) : Bool := (List.range n).any (fun x => mWr M s x == i)
theorem wset_succ (M : xMac) (s n i : Nat) : wset M s (n + 1) i = (wset M s n i || (mWr M s n == i)) := by
  unfold wset
  rw [List.range_succ, List.any_append]
  simp
theorem wset_fair {M : xMac} (hM : mOk M) {s : Nat} (hs : s < mN M) : (∀ i, i < 32 → wset M s (mK M) i = decide (i < mK M)) ↔ mFair M s := by
  have hK4 := hM.2.1
  constructor
  · intro h x y hx hy e
    have h1 := nodup_len (a := List.range (mK M)) (b := ((List.range (mK M)).erase x).map (mWr M s)) List.nodup_range (fun i hi => by
      have hi := List.mem_range.mp hi
      have := h i (by omega)
      rw [decide_eq_true hi] at this
      obtain ⟨z, hz, hw⟩ := List.any_eq_true.mp this
      have hw := beq_iff_eq.mp hw
      by_cases q : z = x
      · refine List.mem_map.mpr ⟨y, (List.Nodup.mem_erase_iff List.nodup_range).mpr ⟨by omega, List.mem_range.mpr (by omega)⟩, ?_⟩
        rw [← e, ← q]; exact hw
      · exact List.mem_map.mpr ⟨z, (List.Nodup.mem_erase_iff List.nodup_range).mpr ⟨q, hz⟩, hw⟩)
    rw [List.length_map, List.length_erase_of_mem (List.mem_range.mpr hx), List.length_range] at h1
    omega
  · intro hf i hi
    by_cases q : i < mK M
    · rw [decide_eq_true q]
      obtain ⟨a, b⟩ := mInv_ok hM hs hf q
      exact List.any_eq_true.mpr ⟨_, List.mem_range.mpr a, beq_iff_eq.mpr b⟩
    · rw [decide_eq_false q, Bool.eq_false_iff]
      intro h
      obtain ⟨z, hz, hw⟩ := List.any_eq_true.mp h
      have hw := beq_iff_eq.mp hw
      have := (hM.2.2.2 s z hs (List.mem_range.mp hz)).1
      omega
theorem c3_writesUnlike {M : xMac} (h : cMb I M) {s : Nat} (hs : s < mN M) : xCon G M_X3_writesUnlike [.ref (G.1 21), .int (nI s)] I J (xpi fun v I' J' => v = b2 (mF M s) ∧ I = I' ∧ J = J') := by
  have hN8 := h.1.2.2.1
  have hK4 := h.1.2.1
  have L : ∀ x, x ≤ mK M → ∀ (v : Int32), (∀ i, i < 32 → tb v i = wset M s x i) → xT G M_X3_writesUnlike (xMQ G (xpi fun v I' J' => v = b2 (mF M s) ∧ I = I' ∧ J = J')) 4 [some (.ref (G.1 21)), some (.int (nI s)), some (.int v), some (.int (nI x))] [] I J := by
    refine x_for (fun x hx IH v hv => ?_)
    refine xr_iload3 dX3_writesUnlike_4 rfl ?_
    refine xr_aload0 dX3_writesUnlike_5 rfl ?_
    refine xr_getIv dX3_writesUnlike_6 fk_3_31 lay_21 rfl h.2.1 ?_
    refine xr_icmp_ge 33 dX3_writesUnlike_9 (by decide) (fun hc => ?_) (fun hc => ?_)
    · have : x = mK M := by have := nle hc; omega
      subst this
      refine xr_iload2 dX3_writesUnlike_33 rfl ?_
      refine xr_ic1 dX3_writesUnlike_34 ?_
      refine xr_aload0 dX3_writesUnlike_35 rfl ?_
      refine xr_getIv dX3_writesUnlike_36 fk_3_31 lay_21 rfl h.2.1 ?_
      refine xr_ishl dX3_writesUnlike_39 ?_
      refine xr_ic1 dX3_writesUnlike_40 ?_
      refine xr_isub dX3_writesUnlike_41 ?_
      refine xr_icmp_ne 49 dX3_writesUnlike_42 (by decide) (fun hne => ?_) (fun hne => ?_)
      · skip
        refine xr_ic0 dX3_writesUnlike_49 ?_
        refine xr_zret dX3_writesUnlike_50 rfl rfl (by simp) ⟨?_, rfl, rfl⟩
        have : ¬ mFair M s := fun q => hne (tb_ext (fun i hi => by rw [hv i hi, tb_low (by omega) hi]; exact (wset_fair h.1 hs).mpr q i hi))
        have : mF M s = false := by
          cases hq : mF M s with
          | false => rfl
          | true => exact absurd (mF_iff.mp hq) this
        rw [this]; rfl
      refine xr_ic1 dX3_writesUnlike_45 ?_
      refine xr_goto 50 dX3_writesUnlike_46 (by decide) ?_
      refine xr_zret dX3_writesUnlike_50 rfl rfl (by simp) ⟨?_, rfl, rfl⟩
      rw [mF_iff.mpr ((wset_fair h.1 hs).mp (fun i hi => by rw [← hv i hi, hne, tb_low (by omega) hi]))]
      rfl
    have hxl := nlt hc
    have IH := IH hxl
    have hwr := (h.2.2.2 s x hs hxl).1
    have hwl := (h.1.2.2.2 s x hs hxl).1
    refine xr_iload2 dX3_writesUnlike_12 rfl ?_
    refine xr_ic1 dX3_writesUnlike_13 ?_
    refine xr_aload0 dX3_writesUnlike_14 rfl ?_
    refine xr_getR dX3_writesUnlike_15 fk_3_9 lay_21 rfl ?_
    refine xr_iload1 dX3_writesUnlike_18 rfl ?_
    refine xr_ic4 dX3_writesUnlike_19 ?_
    refine xr_imul dX3_writesUnlike_20 ?_
    refine xr_iload3 dX3_writesUnlike_21 rfl ?_
    show xT _ _ _ 22 _ _ _ _
    refine xr_iadd dX3_writesUnlike_22 ?_
    refine xr_ialdv (4 * s + x) dX3_writesUnlike_23 lay_22 (by rw [k_4, pk_mul, nI_add, Nat.mul_comm]) (by omega) (by decide) hwr ?_
    refine xr_ishl dX3_writesUnlike_24 ?_
    refine xr_ior dX3_writesUnlike_25 ?_
    refine xr_istore2 dX3_writesUnlike_26 (Nat.le_of_ble_eq_true rfl) ?_
    show xT _ _ _ 27 [_, _, _, _] _ _ _
    refine xr_iinc dX3_writesUnlike_27 rfl ii_1 (Nat.le_of_ble_eq_true rfl) ?_
    show xT _ _ _ 30 [_, _, _, _] _ _ _
    refine xr_goto 4 dX3_writesUnlike_30 (by decide) ?_
    rw [k_1, nI_add]
    refine IH _ (fun i hi => ?_)
    rw [tb_or, hv i hi, ← k_1, tb_shl (by omega) hi, wset_succ]
    congr 1
    rw [Bool.eq_iff_iff, beq_iff_eq, beq_iff_eq]
    exact eq_comm
  refine x_ent (by decide) (Nat.le_of_ble_eq_true rfl) rfl ?_
  show xT _ _ _ 0 [_, _, _, _] _ _ _
  refine xr_ic0 dX3_writesUnlike_0 ?_
  refine xr_istore2 dX3_writesUnlike_1 (Nat.le_of_ble_eq_true rfl) ?_
  show xT _ _ _ 2 [_, _, _, _] _ _ _
  refine xr_ic0 dX3_writesUnlike_2 ?_
  refine xr_istore3 dX3_writesUnlike_3 (Nat.le_of_ble_eq_true rfl) ?_
  show xT _ _ _ 4 [_, _, _, _] _ _ _
  exact L 0 (Nat.zero_le _) 0 (fun i hi => tb_0 i)
end C02
