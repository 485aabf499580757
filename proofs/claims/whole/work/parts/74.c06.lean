section C06
variable {G : xG} {I : xI} {J : xJ}
theorem cJ_fill {k n : Nat} {rf : Nat → Nat} (hk : lay k = .inr (0, n, rf)) (hn : n < 2 ^ 31) (v : Int32) : xCon G M_J7_fill_53178 [.ref (G.1 k), .int v] I J (xpv fun I' J' => (∀ i, i < n → I' k i = v) ∧ (∀ a, a ≠ k → I' a = I a) ∧ J = J') := by
  have L : ∀ i, i ≤ n → ∀ I1, (∀ i', i' < i → I1 k i' = v) → (∀ a, a ≠ k → I1 a = I a) → xT G M_J7_fill_53178 (xMQ G (xpv fun I' J' => (∀ i, i < n → I' k i = v) ∧ (∀ a, a ≠ k → I' a = I a) ∧ J = J')) 5 [some (.ref (G.1 k)), some (.int v), some (.int (nI i)), some (.int (nI n))] [] I1 J := by
    refine x_for (fun i hi IH I1 h1 e1 => ?_)
    refine xr_iload2 dJ7_fill_53178_5 rfl ?_
    refine xr_iload3 dJ7_fill_53178_6 rfl ?_
    refine xr_icmp_ge 20 dJ7_fill_53178_7 (by decide) (fun hc => ?_) (fun hc => ?_)
    · have : i = n := by have := nle hc; omega
      subst this
      refine xr_vret dJ7_fill_53178_20 rfl rfl ⟨h1, e1, rfl⟩
    have hil := nlt hc
    refine xr_aload0 dJ7_fill_53178_10 rfl ?_
    refine xr_iload2 dJ7_fill_53178_11 rfl ?_
    refine xr_iload1 dJ7_fill_53178_12 rfl ?_
    refine xr_iast i dJ7_fill_53178_13 hk rfl hil (by first | decide | omega) ?_
    refine xr_iinc dJ7_fill_53178_14 rfl ii_1 (Nat.le_of_ble_eq_true rfl) ?_
    show xT _ _ _ 17 [_, _, _, _] _ _ _
    refine xr_goto 5 dJ7_fill_53178_17 (by decide) ?_
    rw [k_1, nI_add]
    refine IH hil _ (fun i' hi' => ?_) (fun a ha => by rw [va_up_ne _ _ ha]; exact e1 a ha)
    rw [up_same]
    by_cases e : i' = i
    · rw [e, upd_same]
    · rw [upd_ne _ _ e]; exact h1 i' (by omega)
  refine x_ent (by decide) (Nat.le_of_ble_eq_true rfl) rfl ?_
  show xT _ _ _ 0 [_, _, _, _] _ _ _
  refine xr_ic0 dJ7_fill_53178_0 ?_
  refine xr_istore2 dJ7_fill_53178_1 (Nat.le_of_ble_eq_true rfl) ?_
  show xT _ _ _ 2 [_, _, _, _] _ _ _
  refine xr_aload0 dJ7_fill_53178_2 rfl ?_
  refine xr_alen0 dJ7_fill_53178_3 hk ?_
  refine xr_istore3 dJ7_fill_53178_4 (Nat.le_of_ble_eq_true rfl) ?_
  show xT _ _ _ 5 [_, _, _, _] _ _ _
  exact L 0 (Nat.zero_le _) I (fun i' hi' => absurd hi' (Nat.not_lt_zero _)) (fun a _ => rfl)
def isSt (q : Nat) : Prop := lay q = .inl (5, [.inl (q + 1), .inr false, .inr false, .inr false]) ∧ lay (q + 1) = .inr (0, 40, fun _ => 0)
theorem isSt_r : ∀ r, r < 4 → isSt (4 + 2 * r)
  | 0, _ => ⟨rfl, rfl⟩
  | 1, _ => ⟨rfl, rfl⟩
  | 2, _ => ⟨rfl, rfl⟩
  | 3, _ => ⟨rfl, rfl⟩
  | n + 4, h => by omega
theorem isW_s : ∀ w, w < 8 → isW (12 + w)
  | 0, _ => rfl
  | 1, _ => rfl
  | 2, _ => rfl
  | 3, _ => rfl
  | 4, _ => rfl
  | 5, _ => rfl
  | 6, _ => rfl
  | 7, _ => rfl
  | n + 8, h => by omega
/-- a sheet of the class, that is there -/
def cS0 (I : xI) (p : Nat) (q : Nat × Nat × (Nat → Int32)) : Prop := q.1 < 3 ∧ q.2.1 ≤ 40 ∧ I p 2 = nI q.1 ∧ I p 3 = nI q.2.1 ∧ ∀ i, i < q.2.1 → I (p + 1) i = q.2.2 i
def cS1 (I : xI) (p : Nat) (o : Option (Nat × Nat × (Nat → Int32))) : Prop := match o with
  | none => I p 1 = 0
  | some q => I p 1 = 1 ∧ cS0 I p q
theorem cS1.cg {I I' : xI} {p : Nat} {o : Option (Nat × Nat × (Nat → Int32))} (h : cS1 I p o) (h1 : I' p = I p) (h2 : I' (p + 1) = I (p + 1)) : cS1 I' p o := by
  unfold cS1 cS0 at *
  rw [h1, h2]
  exact h
def cSh (I : xI) (sh : xSh) : Prop := ∀ r, r < 4 → cS1 I (4 + 2 * r) (sh r)
theorem c5_lay {p : Nat} (hp : isSt p) {kd n : Nat} (hkd : kd < 3) (hn : n ≤ 40) : xCon G M_X5_lay [.ref (G.1 p), .int (nI kd), .int (nI n)] I J (xpv fun I' J' => cS1 I' p (some (kd, n, fun _ => 0)) ∧ cfx [p, p + 1] I J I' J') := by
  refine x_ent (by decide) (Nat.le_of_ble_eq_true rfl) rfl ?_
  show xT _ _ _ 0 [_, _, _] _ _ _
  refine xr_aload0 dX5_lay_0 rfl ?_
  refine xr_getR dX5_lay_1 fk_5_9 hp.1 rfl ?_
  refine xr_ic0 dX5_lay_4 ?_
  refine xr_cSv [_, _] dX5_lay_5 (xcs_of cf_J7_fill_53178 ml_5_15 (by decide)) rfl rfl (Nat.le_of_ble_eq_true rfl) (cJ_fill hp.2 (by decide) 0) (fun I1 J1 hc => ?_)
  obtain ⟨h1, e1, rfl⟩ := hc
  have f1 : cfx [p, p + 1] I J I1 J := fun a ha => ⟨e1 a (fun q => ha (by rw [q]; simp)), rfl⟩
  refine xr_aload0 dX5_lay_8 rfl ?_
  refine xr_ic1 dX5_lay_9 ?_
  refine xr_putZ dX5_lay_10 fp_5_21 hp.1 rfl (by simp) ?_
  refine xr_aload0 dX5_lay_13 rfl ?_
  refine xr_iload1 dX5_lay_14 rfl ?_
  refine xr_putI dX5_lay_15 fp_5_25 hp.1 rfl ?_
  refine xr_aload0 dX5_lay_18 rfl ?_
  refine xr_iload2 dX5_lay_19 rfl ?_
  show xT _ _ _ 20 _ _ _ _
  refine xr_putI dX5_lay_20 fp_5_29 hp.1 rfl ?_
  refine xr_vret dX5_lay_23 rfl rfl ⟨⟨?_, hkd, hn, ?_, ?_, fun i hi => ?_⟩, ((f1.up _ (by simp)).up _ (by simp)).up _ (by simp)⟩
  · rw [up_same, upd_ne _ _ (by decide), up_same, upd_ne _ _ (by decide), up_same, upd_same]
  · rw [up_same, upd_ne _ _ (by decide), up_same, upd_same]
  · rw [up_same, upd_same]
  · rw [va_up_ne _ _ (by omega), va_up_ne _ _ (by omega), va_up_ne _ _ (by omega)]
    exact h1 i (by simp at hi; omega)
theorem c5_hasNumber {p : Nat} (hp : isSt p) {n : Nat} (hn : n ≤ 40) (hc : I p 3 = nI n) (i : Int32) : xCon G M_X5_hasNumber [.ref (G.1 p), .int i] I J (xpi fun v I' J' => v = b2 (ix i n).isSome ∧ I = I' ∧ J = J') := by
  refine x_ent (by decide) (Nat.le_of_ble_eq_true rfl) rfl ?_
  show xT _ _ _ 0 [_, _] _ _ _
  refine xr_iload1 dX5_hasNumber_0 rfl ?_
  refine xr_if_lt 16 dX5_hasNumber_1 (by decide) (fun h0 => ?_) (fun h0 => ?_)
  · rw [lt_toInt, ti_0] at h0
    refine xr_ic0 dX5_hasNumber_16 ?_
    refine xr_zret dX5_hasNumber_17 rfl rfl (by simp) ⟨ix_b0 (Or.inl h0), rfl, rfl⟩
  rw [lt_toInt, ti_0] at h0
  refine xr_iload1 dX5_hasNumber_4 rfl ?_
  refine xr_aload0 dX5_hasNumber_5 rfl ?_
  refine xr_getIv dX5_hasNumber_6 fk_5_29 hp.1 rfl hc ?_
  refine xr_icmp_ge 16 dX5_hasNumber_9 (by decide) (fun h1 => ?_) (fun h1 => ?_)
  · rw [le_toInt, nI_toInt (by omega)] at h1
    refine xr_ic0 dX5_hasNumber_16 ?_
    refine xr_zret dX5_hasNumber_17 rfl rfl (by simp) ⟨ix_b0 (Or.inr h1), rfl, rfl⟩
  rw [le_toInt, nI_toInt (by omega)] at h1
  refine xr_ic1 dX5_hasNumber_12 ?_
  refine xr_goto 17 dX5_hasNumber_13 (by decide) ?_
  refine xr_zret dX5_hasNumber_17 rfl rfl (by simp) ⟨ix_b1 h0 h1, rfl, rfl⟩
theorem c5_hasPair {p : Nat} (hp : isSt p) {n : Nat} (hn : n ≤ 40) (hc : I p 3 = nI n) {i x : Nat} (hi : i < 2 ^ 31) (hx : x < 4) : xCon G M_X5_hasPair [.ref (G.1 p), .int (nI i), .int (nI x)] I J (xpi fun v I' J' => v = b2 (decide (i + 2 * x + 1 < n)) ∧ I = I' ∧ J = J') := by
  refine x_ent (by decide) (Nat.le_of_ble_eq_true rfl) rfl ?_
  show xT _ _ _ 0 [_, _, _] _ _ _
  refine xr_iload1 dX5_hasPair_0 rfl ?_
  refine xr_aload0 dX5_hasPair_1 rfl ?_
  refine xr_getIv dX5_hasPair_2 fk_5_29 hp.1 rfl hc ?_
  refine xr_icmp_ge 26 dX5_hasPair_5 (by decide) (fun h0 => ?_) (fun h0 => ?_)
  · have h0 := nle h0
    refine xr_ic0 dX5_hasPair_26 ?_
    refine xr_zret dX5_hasPair_27 rfl rfl (by simp) ⟨b2_N (by omega), rfl, rfl⟩
  have h0 := nlt h0
  refine xr_iload1 dX5_hasPair_8 rfl ?_
  refine xr_ic2 dX5_hasPair_9 ?_
  refine xr_iload2 dX5_hasPair_10 rfl ?_
  refine xr_imul dX5_hasPair_11 ?_
  refine xr_iadd dX5_hasPair_12 ?_
  refine xr_ic1 dX5_hasPair_13 ?_
  refine xr_iadd dX5_hasPair_14 ?_
  refine xr_aload0 dX5_hasPair_15 rfl ?_
  show xT _ _ _ 16 _ _ _ _
  refine xr_getIv dX5_hasPair_16 fk_5_29 hp.1 rfl hc ?_
  rw [k_2, pk_mul, nI_add, k_1, nI_add]
  refine xr_icmp_ge 26 dX5_hasPair_19 (by decide) (fun h1 => ?_) (fun h1 => ?_)
  · have h1 := nle h1
    refine xr_ic0 dX5_hasPair_26 ?_
    refine xr_zret dX5_hasPair_27 rfl rfl (by simp) ⟨b2_N (by omega), rfl, rfl⟩
  have h1 := nlt h1
  refine xr_ic1 dX5_hasPair_22 ?_
  refine xr_goto 27 dX5_hasPair_23 (by decide) ?_
  refine xr_zret dX5_hasPair_27 rfl rfl (by simp) ⟨b2_P (by omega), rfl, rfl⟩
theorem c5_write {p : Nat} (hp : isSt p) {q : Nat × Nat × (Nat → Int32)} (hq : I p 1 = 1) (h : cS0 I p q) {i : Nat} (hi : i < q.2.1) (v : Int32) : xCon G M_X5_write [.ref (G.1 p), .int (nI i), .int v] I J (xpv fun I' J' => cS1 I' p (some (q.1, q.2.1, upd q.2.2 i (casts q.1 v))) ∧ cfx [p + 1] I J I' J') := by
  obtain ⟨h3, h40, hk, hn, hf⟩ := h
  have fin : ∀ w : Int32, w = casts q.1 v → cS1 (va_up I (p + 1) (upd (I (p + 1)) i w)) p (some (q.1, q.2.1, upd q.2.2 i (casts q.1 v))) := fun w hw => by
    have e : va_up I (p + 1) (upd (I (p + 1)) i w) p = I p := va_up_ne _ _ (by omega)
    refine ⟨by rw [e]; exact hq, h3, h40, by rw [e]; exact hk, by rw [e]; exact hn, fun j hj => ?_⟩
    rw [up_same]
    show upd (I (p + 1)) i w j = upd q.2.2 i (casts q.1 v) j
    by_cases ej : j = i
    · rw [ej, upd_same, upd_same, hw]
    · rw [upd_ne _ _ ej, upd_ne _ _ ej]; exact hf j hj
  refine x_ent (by decide) (Nat.le_of_ble_eq_true rfl) rfl ?_
  show xT _ _ _ 0 [_, _, _] _ _ _
  refine xr_aload0 dX5_write_0 rfl ?_
  refine xr_getIv dX5_write_1 fk_5_25 hp.1 rfl hk ?_
  match hk1 : q.1, h3 with
  | 0, _ =>
    rw [hk1] at fin
    refine xr_look 32 dX5_write_4 (by decide) rfl (by decide) ?_
    refine xr_aload0 dX5_write_32 rfl ?_
    refine xr_getR dX5_write_33 fk_5_9 hp.1 rfl ?_
    refine xr_iload1 dX5_write_36 rfl ?_
    refine xr_iload2 dX5_write_37 rfl ?_
    refine xr_i2b dX5_write_38 ?_
    refine xr_iast i dX5_write_39 hp.2 rfl (by omega) (by first | decide | omega) ?_
    refine xr_goto 61 dX5_write_40 (by decide) ?_
    refine xr_vret dX5_write_61 rfl rfl ⟨fin _ rfl, cfx.rf.up _ (by simp)⟩
  | 1, _ =>
    rw [hk1] at fin
    refine xr_look 43 dX5_write_4 (by decide) rfl (by decide) ?_
    refine xr_aload0 dX5_write_43 rfl ?_
    refine xr_getR dX5_write_44 fk_5_9 hp.1 rfl ?_
    refine xr_iload1 dX5_write_47 rfl ?_
    refine xr_iload2 dX5_write_48 rfl ?_
    refine xr_i2s dX5_write_49 ?_
    refine xr_iast i dX5_write_50 hp.2 rfl (by omega) (by first | decide | omega) ?_
    refine xr_goto 61 dX5_write_51 (by decide) ?_
    refine xr_vret dX5_write_61 rfl rfl ⟨fin _ rfl, cfx.rf.up _ (by simp)⟩
  | 2, _ =>
    rw [hk1] at fin
    refine xr_look 54 dX5_write_4 (by decide) rfl (by decide) ?_
    refine xr_aload0 dX5_write_54 rfl ?_
    refine xr_getR dX5_write_55 fk_5_9 hp.1 rfl ?_
    refine xr_iload1 dX5_write_58 rfl ?_
    refine xr_iload2 dX5_write_59 rfl ?_
    refine xr_iast i dX5_write_60 hp.2 rfl (by omega) (by first | decide | omega) ?_
    refine xr_vret dX5_write_61 rfl rfl ⟨fin _ rfl, cfx.rf.up _ (by simp)⟩
  | n + 3, h => omega
end C06
