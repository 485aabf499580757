section C04
variable {G : xG} {I : xI} {J : xJ}
def cfm (I I' : xI) : Prop := (∀ a, a ∉ [21, 24, 25, 26] → I' a = I a) ∧ ∀ j, j ≠ 5 → I' 21 j = I 21 j
theorem cfm.rf {I : xI} : cfm I I := ⟨fun _ _ => rfl, fun _ _ => rfl⟩
theorem cfm.mb {I I' : xI} {M : xMac} (f : cfm I I') (h : cMb I M) : cMb I' M := ⟨h.1, by rw [f.2 6 (by decide)]; exact h.2.1, by rw [f.2 7 (by decide)]; exact h.2.2.1, by rw [f.1 22 (by decide), f.1 23 (by decide)]; exact h.2.2.2⟩
theorem cfm.bk {I I' : xI} {c : Nat → Bool} (f : cfm I I') (h : cBk I c) : cBk I' c := by unfold cBk; rw [f.2 8 (by decide)]; exact h
theorem cfm.up {I I1 : xI} (f : cfm I I1) {k : Nat} (g : Nat → Int32) (hk : k ∈ [24, 25, 26]) : cfm I (va_up I1 k g) := by
  have hk' : k ∈ [21, 24, 25, 26] := List.mem_cons_of_mem _ hk
  have h21 : (21 : Nat) ≠ k := fun q => by rw [← q] at hk; simp at hk
  exact ⟨fun a ha => by rw [va_up_ne _ _ (fun q => ha (by rw [q]; exact hk'))]; exact f.1 a ha, fun j hj => by rw [va_up_ne _ _ h21]; exact f.2 j hj⟩
theorem cfm.up5 {I I1 : xI} (f : cfm I I1) (v : Int32) : cfm I (va_up I1 21 (upd (I1 21) 5 v)) := ⟨fun a ha => by rw [va_up_ne _ _ (fun q => ha (by rw [q]; simp))]; exact f.1 a ha, fun j hj => by rw [up_same, upd_ne _ _ hj]; exact f.2 j hj⟩
theorem c3_listMarks {M : xMac} (h : cMb I M) (hB : cBk I (mB M)) : xCon G M_X3_listMarks [.ref (G.1 21)] I J (xpv fun I' J' => cMk I' M ∧ cWr I' M ∧ cfm I I' ∧ J = J') := by
  have hN8 := h.1.2.2.1
  have hK4 := h.1.2.1
  have L : ∀ s, s ≤ mN M → ∀ I1 (z2 : Option Value), cfm I I1 → I1 21 5 = nI (mMk M s).length → lrep (I1 26) 0 (mMk M s) nI → (∀ m x, mOkm M m → m / 2 < s → x < mK M → cW0 I1 M m x) → xT G M_X3_listMarks (xMQ G (xpv fun I' J' => cMk I' M ∧ cWr I' M ∧ cfm I I' ∧ J = J')) 7 [some (.ref (G.1 21)), some (.int (nI s)), z2] [] I1 J := by
    refine x_for (fun s hs IH I1 z2 f1 k1 m1 w1 => ?_)
    have h1 := f1.mb h
    have hlen := mMk_len M s
    refine xr_iload1 dX3_listMarks_7 rfl ?_
    refine xr_aload0 dX3_listMarks_8 rfl ?_
    refine xr_getIv dX3_listMarks_9 fk_3_34 lay_21 rfl h1.2.2.1 ?_
    refine xr_icmp_ge 91 dX3_listMarks_12 (by decide) (fun hc => ?_) (fun hc => ?_)
    · have : s = mN M := by have := nle hc; omega
      subst this
      refine xr_vret dX3_listMarks_91 rfl rfl ⟨⟨k1, m1⟩, fun m x hm hx => w1 m x hm hm.1 hx, f1, rfl⟩
    have hsl := nlt hc
    have IH := IH hsl
    have Lx : ∀ x, x ≤ mK M → ∀ I2, cfm I I2 → I2 21 5 = nI (mMk M (s + 1)).length → lrep (I2 26) 0 (mMk M (s + 1)) nI → (∀ m x, mOkm M m → m / 2 < s → x < mK M → cW0 I2 M m x) → (∀ y, y < x → (I2 24 (4 * (2 * s) + y) = nI (mWr M s y) ∧ I2 25 (4 * (2 * s) + y) = oI ((mGo M s y).map (fun g => 2 * g))) ∧ (mB M s = true → I2 24 (4 * (2 * s + 1) + mWr M s y) = nI y ∧ I2 25 (4 * (2 * s + 1) + mWr M s y) = oI ((mGo M s y).map (fun g => 2 * g + 1)))) → xT G M_X3_listMarks (xMQ G (xpv fun I' J' => cMk I' M ∧ cWr I' M ∧ cfm I I' ∧ J = J')) 65 [some (.ref (G.1 21)), some (.int (nI s)), some (.int (nI x))] [] I2 J := by
      refine x_for (fun x hx IHx I2 f2 k2 m2 w2 v2 => ?_)
      have h2 := f2.mb h
      refine xr_iload2 dX3_listMarks_65 rfl ?_
      refine xr_aload0 dX3_listMarks_66 rfl ?_
      refine xr_getIv dX3_listMarks_67 fk_3_31 lay_21 rfl h2.2.1 ?_
      refine xr_icmp_ge 85 dX3_listMarks_70 (by decide) (fun hc => ?_) (fun hc => ?_)
      · have : x = mK M := by have := nle hc; omega
        subst this
        refine xr_iinc dX3_listMarks_85 rfl ii_1 (Nat.le_of_ble_eq_true rfl) ?_
        show xT _ _ _ 88 [_, _, _] _ _ _
        refine xr_goto 7 dX3_listMarks_88 (by decide) ?_
        rw [k_1, nI_add]
        refine IH I2 _ f2 k2 m2 (fun m x hm hms hxk => ?_)
        rcases Nat.lt_or_ge (m / 2) s with q | q
        · exact w2 m x hm q hxk
        have hms' : m / 2 = s := by omega
        rcases Nat.mod_two_eq_zero_or_one m with q2 | q2
        · have e : m = 2 * s := by omega
          subst e
          obtain ⟨a, b⟩ := (v2 x hxk).1
          refine ⟨?_, ?_⟩
          · rw [a]; unfold mw; rw [if_pos q2, hms']
          · rw [b]; unfold mg; rw [if_pos q2, hms']
        · have e : m = 2 * s + 1 := by omega
          have hb : mBack M s := by rw [← hms']; exact hm.2 q2
          subst e
          obtain ⟨i1, i2⟩ := mInv_ok h.1 hsl hb.fair hxk
          obtain ⟨a, b⟩ := (v2 _ i1).2 (mB_iff.mpr hb)
          rw [i2] at a b
          refine ⟨?_, ?_⟩
          · rw [a]; unfold mw; rw [if_neg (by omega), hms']
          · rw [b]; unfold mg; rw [if_neg (by omega), hms']
      have hxl := nlt hc
      have IHx := IHx hxl
      refine xr_aload0 dX3_listMarks_73 rfl ?_
      refine xr_iload1 dX3_listMarks_74 rfl ?_
      refine xr_iload2 dX3_listMarks_75 rfl ?_
      refine xr_cVv [_, _] dX3_listMarks_76 (xcv_of cf_X3_wireMarks ml_3_76 (by decide)) rfl lay_21 rfl rfl rfl (Nat.le_of_ble_eq_true rfl) (c3_wireMarks h2 (f2.bk hB) hsl hxl) (fun I3 J3 hc3 => ?_)
      obtain ⟨a3, b3, c3, d3, rfl⟩ := hc3
      refine xr_iinc dX3_listMarks_79 rfl ii_1 (Nat.le_of_ble_eq_true rfl) ?_
      show xT _ _ _ 82 [_, _, _] _ _ _
      refine xr_goto 65 dX3_listMarks_82 (by decide) ?_
      rw [k_1, nI_add]
      have f3 : cfm I I3 := ⟨fun a ha => by rw [d3 a (fun q => ha (by rw [q]; simp)) (fun q => ha (by rw [q]; simp))]; exact f2.1 a ha, fun j hj => by rw [d3 21 (by decide) (by decide)]; exact f2.2 j hj⟩
      have hwx := (h.1.2.2.2 s x hsl hxl).1
      have hwy : ∀ y, y < x → mWr M s y < mK M := fun y hy => (h.1.2.2.2 s y hsl (by omega)).1
      refine IHx I3 f3 (by rw [d3 21 (by decide) (by decide)]; exact k2) (by rw [d3 26 (by decide) (by decide)]; exact m2) (fun m x' hm hms hxk => ?_) (fun y hy => ?_)
      · obtain ⟨e1, e2⟩ := c3 (4 * m + x') (by omega) (Or.inr (by omega))
        obtain ⟨e3, e4⟩ := w2 m x' hm hms hxk
        exact ⟨e1.trans e3, e2.trans e4⟩
      · rcases Nat.lt_or_ge y x with q | q
        · have hwy := hwy y q
          obtain ⟨⟨u1, u2⟩, u3⟩ := v2 y q
          obtain ⟨e1, e2⟩ := c3 (4 * (2 * s) + y) (by omega) (Or.inr (by omega))
          refine ⟨⟨e1.trans u1, e2.trans u2⟩, fun hb => ?_⟩
          have hf := (mB_iff.mp hb).fair x y hxl q
          obtain ⟨e3, e4⟩ := c3 (4 * (2 * s + 1) + mWr M s y) (by omega) (Or.inr (by omega))
          exact ⟨e3.trans (u3 hb).1, e4.trans (u3 hb).2⟩
        · have : y = x := by omega
          subst this
          exact ⟨a3, b3⟩
    have K63 : ∀ I2, cfm I I2 → I2 21 5 = nI (mMk M (s + 1)).length → lrep (I2 26) 0 (mMk M (s + 1)) nI → I2 24 = I1 24 → I2 25 = I1 25 → xT G M_X3_listMarks (xMQ G (xpv fun I' J' => cMk I' M ∧ cWr I' M ∧ cfm I I' ∧ J = J')) 63 [some (.ref (G.1 21)), some (.int (nI s)), z2] [] I2 J := by
      intro I2 f2 k2 m2 e24 e25
      refine xr_ic0 dX3_listMarks_63 ?_
      refine xr_istore2 dX3_listMarks_64 (Nat.le_of_ble_eq_true rfl) ?_
      show xT _ _ _ 65 [_, _, _] _ _ _
      refine Lx 0 (Nat.zero_le _) I2 f2 k2 m2 (fun m x hm hms hx => ?_) (fun y hy => absurd hy (Nat.not_lt_zero _))
      have := w1 m x hm hms hx
      unfold cW0
      rw [e24, e25]
      exact this
    refine xr_aload0 dX3_listMarks_15 rfl ?_
    refine xr_getR dX3_listMarks_16 fk_3_24 lay_21 rfl ?_
    refine xr_aload0 dX3_listMarks_19 rfl ?_
    refine xr_dup dX3_listMarks_20 rfl ?_
    refine xr_getIv dX3_listMarks_21 fk_3_27 lay_21 rfl k1 ?_
    refine xr_dup_x1 dX3_listMarks_24 rfl rfl ?_
    refine xr_ic1 dX3_listMarks_25 ?_
    refine xr_iadd dX3_listMarks_26 ?_
    show xT _ _ _ 27 _ _ _ _
    refine xr_putI dX3_listMarks_27 fp_3_27 lay_21 rfl ?_
    rw [k_1, nI_add]
    generalize hI2 : va_up I1 21 (upd (I1 21) 5 (nI ((mMk M s).length + 1))) = I2
    have f2 : cfm I I2 := by rw [← hI2]; exact f1.up5 _
    have k2 : I2 21 5 = nI ((mMk M s).length + 1) := by rw [← hI2, up_same, upd_same]
    have m2 : I2 26 = I1 26 := by rw [← hI2, va_up_ne _ _ (by decide)]
    refine xr_ic2 dX3_listMarks_30 ?_
    refine xr_iload1 dX3_listMarks_31 rfl ?_
    refine xr_imul dX3_listMarks_32 ?_
    refine xr_iast ((mMk M s).length) dX3_listMarks_33 lay_26 rfl (by omega) (by decide) ?_
    rw [k_2, pk_mul]
    generalize hI3 : va_up I2 26 (upd (I2 26) (mMk M s).length (nI (2 * s))) = I3
    have f3 : cfm I I3 := by rw [← hI3]; exact f2.up _ (by decide)
    have k3 : I3 21 5 = nI ((mMk M s).length + 1) := by rw [← hI3, va_up_ne _ _ (by decide)]; exact k2
    have m3 : lrep (I3 26) 0 (mMk M s ++ [2 * s]) nI := by
      intro i hi
      rw [Nat.zero_add, ← hI3, up_same, m2]
      rw [List.length_append, List.length_singleton] at hi
      rcases Nat.lt_or_ge i (mMk M s).length with q | q
      · rw [upd_ne _ _ (by omega), List.getElem_append_left q]
        have := m1 i q
        rw [Nat.zero_add] at this
        exact this
      · have : i = (mMk M s).length := by omega
        subst this
        rw [upd_same]
        simp
    have e24 : I3 24 = I1 24 := by rw [← hI3, va_up_ne _ _ (by decide), ← hI2, va_up_ne _ _ (by decide)]
    have e25 : I3 25 = I1 25 := by rw [← hI3, va_up_ne _ _ (by decide), ← hI2, va_up_ne _ _ (by decide)]
    refine xr_aload0 dX3_listMarks_34 rfl ?_
    refine xr_iload1 dX3_listMarks_35 rfl ?_
    refine xr_cVi [_] dX3_listMarks_36 (xcv_of cf_X3_isBack ml_3_73 (by decide)) rfl lay_21 rfl rfl rfl (Nat.le_of_ble_eq_true rfl) (c3_isBack (f3.bk hB) (by omega)) (fun v I4 J4 hc4 => ?_)
    obtain ⟨rfl, rfl, rfl⟩ := hc4
    refine xr_if_eq 63 dX3_listMarks_39 (by decide) (fun hb => ?_) (fun hb => ?_)
    · have hb := b2_0.mp hb
      have e : mMk M (s + 1) = mMk M s ++ [2 * s] := by rw [mMk_succ, hb]; rfl
      exact K63 I3 f3 (by rw [e, k3]; simp) (by rw [e]; exact m3) e24 e25
    have hb : mB M s = true := by
      cases hq : mB M s with
      | true => rfl
      | false => rw [hq] at hb; exact absurd rfl hb
    have e : mMk M (s + 1) = mMk M s ++ [2 * s, 2 * s + 1] := by rw [mMk_succ, hb]; rfl
    refine xr_aload0 dX3_listMarks_42 rfl ?_
    refine xr_getR dX3_listMarks_43 fk_3_24 lay_21 rfl ?_
    refine xr_aload0 dX3_listMarks_46 rfl ?_
    refine xr_dup dX3_listMarks_47 rfl ?_
    refine xr_getIv dX3_listMarks_48 fk_3_27 lay_21 rfl k3 ?_
    refine xr_dup_x1 dX3_listMarks_51 rfl rfl ?_
    refine xr_ic1 dX3_listMarks_52 ?_
    refine xr_iadd dX3_listMarks_53 ?_
    show xT _ _ _ 54 _ _ _ _
    refine xr_putI dX3_listMarks_54 fp_3_27 lay_21 rfl ?_
    rw [k_1, nI_add]
    generalize hI5 : va_up I3 21 (upd (I3 21) 5 (nI ((mMk M s).length + 1 + 1))) = I5
    have f5 : cfm I I5 := by rw [← hI5]; exact f3.up5 _
    have k5 : I5 21 5 = nI ((mMk M s).length + 1 + 1) := by rw [← hI5, up_same, upd_same]
    have m5 : I5 26 = I3 26 := by rw [← hI5, va_up_ne _ _ (by decide)]
    refine xr_ic2 dX3_listMarks_57 ?_
    refine xr_iload1 dX3_listMarks_58 rfl ?_
    refine xr_imul dX3_listMarks_59 ?_
    refine xr_ic1 dX3_listMarks_60 ?_
    refine xr_iadd dX3_listMarks_61 ?_
    refine xr_iast ((mMk M s).length + 1) dX3_listMarks_62 lay_26 rfl (by omega) (by decide) ?_
    rw [k_2, pk_mul, k_1, nI_add]
    refine K63 _ (f5.up _ (by decide)) ?_ ?_ ?_ ?_
    · rw [va_up_ne _ _ (by decide), e, k5]; simp
    · rw [e]
      intro i hi
      rw [Nat.zero_add, up_same, m5]
      rcases Nat.lt_or_ge i ((mMk M s).length + 1) with q | q
      · rw [upd_ne _ _ (by omega)]
        have := m3 i (by rw [List.length_append, List.length_singleton]; exact q)
        rw [Nat.zero_add] at this
        rw [this]
        congr 1
        rcases Nat.lt_or_ge i (mMk M s).length with q2 | q2
        · rw [List.getElem_append_left q2, List.getElem_append_left q2]
        · have : i = (mMk M s).length := by omega
          subst this
          simp
      · have : i = (mMk M s).length + 1 := by
          rw [List.length_append] at hi
          simp at hi
          omega
        subst this
        rw [upd_same]
        simp
    · rw [va_up_ne _ _ (by decide), ← hI5, va_up_ne _ _ (by decide), e24]
    · rw [va_up_ne _ _ (by decide), ← hI5, va_up_ne _ _ (by decide), e25]
  refine x_ent (by decide) (Nat.le_of_ble_eq_true rfl) rfl ?_
  show xT _ _ _ 0 [_, _, _] _ _ _
  refine xr_aload0 dX3_listMarks_0 rfl ?_
  refine xr_ic0 dX3_listMarks_1 ?_
  refine xr_putI dX3_listMarks_2 fp_3_27 lay_21 rfl ?_
  refine xr_ic0 dX3_listMarks_5 ?_
  refine xr_istore1 dX3_listMarks_6 (Nat.le_of_ble_eq_true rfl) ?_
  show xT _ _ _ 7 [_, _, _] _ _ _
  refine L 0 (Nat.zero_le _) _ _ (cfm.rf.up5 _) ?_ (fun i hi => absurd hi (Nat.not_lt_zero _)) (fun m x _ hm _ => absurd hm (Nat.not_lt_zero _))
  rw [up_same, upd_same]
  rfl
end C04
