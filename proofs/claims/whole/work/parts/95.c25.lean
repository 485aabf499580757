section C25
variable {G : xG} {I : xI} {J : xJ}
theorem plc_cons (K : Nat) (x : Nat) : ∀ r : List Nat, plc K (x :: r) = x * K ^ r.length + plc K r := by
  refine lrev ?_ ?_
  · simp [plc]
  · intro r y IH
    rw [← List.cons_append, plc_snoc, IH, plc_snoc, List.length_append, List.length_singleton, Nat.pow_succ, Nat.add_mul, Nat.mul_assoc]
    omega
theorem mkp_succ {M : xMac} (hM : mOk M) {n m x i : Nat} (hx : x < mK M) (hi : i < mK M ^ n) : mkp M (n + 1) m (x * mK M ^ n + i) = mw M m x * mK M ^ n + (match mg M m x with
    | none => i
    | some g => mkp M n g i) := by
  have hK : 0 < mK M := by have := hM.1; omega
  have hrow : rOfP (mK M) (n + 1) (x * mK M ^ n + i) = x :: rOfP (mK M) n i := by
    have h1 := rOfP_plc hK (x :: rOfP (mK M) n i) (fun y hy => by
      rcases List.mem_cons.mp hy with q | q
      · rw [q]; exact hx
      · exact rOfP_lt hK n i y q)
    rw [plc_cons, rOfP_len, plc_rOfP hK n i hi, List.length_cons, rOfP_len] at h1
    exact h1
  unfold mkp
  rw [hrow]
  show plc (mK M) (mw M m x :: mact M (mg M m x) (rOfP (mK M) n i)) = _
  rw [plc_cons, mact_len, rOfP_len]
  congr 1
  cases mg M m x with
  | none => rw [mact_none]; exact plc_rOfP hK n i hi
  | some g => rfl
def sK (K : Nat) : Nat → Nat
  | 0 => 0
  | j + 1 => sK K j + K ^ j
theorem sK_lt {K : Nat} (hK : 2 ≤ K) : ∀ j, sK K j < K ^ j
  | 0 => by simp [sK]
  | j + 1 => by
    have h1 := sK_lt hK j
    have h2 : 2 * K ^ j ≤ K * K ^ j := Nat.mul_le_mul_right _ hK
    show sK K j + K ^ j < K ^ (j + 1)
    rw [Nat.pow_succ, Nat.mul_comm (K ^ j) K]
    omega
def cTb (I : xI) (M : xMac) (bt : Nat) : Prop := ∀ j, j < bt → I 29 j = nI (mK M ^ j) ∧ I 30 j = nI (sK (mK M) j) ∧ ∀ m ∈ mMarks M, ∀ p, p < mK M ^ j → I 28 (512 * m + sK (mK M) j + p) = nI (mkp M j m p)
def cLv (I : xI) (M : xMac) : Prop := ∃ bt, I 27 7 = nI bt ∧ bt ≤ 9 ∧ (∀ j, j < bt → mK M ^ j ≤ 256) ∧ cTb I M bt
theorem cLv.cg {I I' : xI} {M : xMac} (h : cLv I M) (e : ∀ a, 27 ≤ a → a ≤ 30 → I' a = I a) : cLv I' M := by
  unfold cLv cTb at h ⊢
  rw [e 27 (by decide) (by decide), e 28 (by decide) (by decide), e 29 (by decide) (by decide), e 30 (by decide) (by decide)]
  exact h
theorem marks_16 {M : xMac} (hM : mOk M) {m : Nat} (h : m ∈ mMarks M) : m < 16 := by
  have := (mMarks_ok M m h).1
  have := hM.2.2.1
  omega
theorem marks_in {M : xMac} {m : Nat} (h : mOkm M m) : m ∈ mMarks M := mMk_mem M (mN M) m h.1 h.2
theorem c2_buildBranch {M : xMac} (hm : cMc I M) (hwh : mWhole M) {j m x : Nat} (hj : mK M ^ (j + 1) ≤ 256) (hmk : m ∈ mMarks M) (hx : x < mK M) (ht : cTb I M (j + 1)) (h30 : I 30 (j + 1) = nI (sK (mK M) (j + 1))) : xCon G M_X2_buildBranch [.ref (G.1 27), .ref (G.1 21), .int (nI (j + 1)), .int (nI m), .int (nI x)] I J (xpv fun I' J' => (∀ i, i < mK M ^ j → I' 28 (512 * m + sK (mK M) (j + 1) + (x * mK M ^ j + i)) = nI (mkp M (j + 1) m (x * mK M ^ j + i))) ∧ (∀ q, (q < 512 * m + sK (mK M) (j + 1) + x * mK M ^ j ∨ 512 * m + sK (mK M) (j + 1) + x * mK M ^ j + mK M ^ j ≤ q) → I' 28 q = I 28 q) ∧ (∀ a, a ≠ 28 → I' a = I a) ∧ J = J') := by
  have hM := hm.1.1
  have hK2 := hM.1
  have hK4 := hM.2.1
  have hj8 := lvl_8 hK2 hj
  have hm16 := marks_16 hM hmk
  have hok := mMarks_ok M m hmk
  obtain ⟨t1, t2, t3⟩ := ht j (by omega)
  obtain ⟨v24, v25⟩ := hm.2.2.2.2 m x hok hx
  have hgo : ∀ g, mg M m x = some g → g ∈ mMarks M ∧ g < 16 := fun g hg => by
    have := marks_in (mg_ok hM hwh hok hx hg)
    exact ⟨this, marks_16 hM this⟩
  have hmw := mw_lt hM hok hx
  have hs1 := sK_lt hK2 (j + 1)
  have hs0 := sK_lt hK2 j
  have hpk : mK M ^ (j + 1) = mK M ^ j * mK M := Nat.pow_succ _ _
  have hxr : x * mK M ^ j + mK M ^ j ≤ mK M ^ (j + 1) := by
    rw [hpk, Nat.mul_comm (mK M ^ j)]
    have : (x + 1) * mK M ^ j ≤ mK M * mK M ^ j := Nat.mul_le_mul_right _ hx
    rw [Nat.add_mul] at this
    omega
  have hwr : mw M m x * mK M ^ j + mK M ^ j ≤ mK M ^ (j + 1) := by
    rw [hpk, Nat.mul_comm (mK M ^ j)]
    have : (mw M m x + 1) * mK M ^ j ≤ mK M * mK M ^ j := Nat.mul_le_mul_right _ hmw
    rw [Nat.add_mul] at this
    omega
  have hmk2 : ∀ i, i < mK M ^ j → mkp M (j + 1) m (x * mK M ^ j + i) = mw M m x * mK M ^ j + (match mg M m x with
    | none => i
    | some g => mkp M j g i) := fun i hi => mkp_succ hM hx hi
  have hsk : sK (mK M) (j + 1) = sK (mK M) j + mK M ^ j := rfl
  generalize hR : mK M ^ j = R at *
  generalize hB : 512 * m + sK (mK M) (j + 1) + x * R = B at *
  have L : ∀ i, i ≤ R → ∀ I1 (z10 : Option Value), (∀ i', i' < i → I1 28 (B + i') = nI (mkp M (j + 1) m (x * R + i'))) → (∀ q, (q < B ∨ B + i ≤ q) → I1 28 q = I 28 q) → (∀ a, a ≠ 28 → I1 a = I a) → xT G M_X2_buildBranch (xMQ G (xpv fun I' J' => (∀ i, i < R → I' 28 (512 * m + sK (mK M) (j + 1) + (x * R + i)) = nI (mkp M (j + 1) m (x * R + i))) ∧ (∀ q, (q < B ∨ B + R ≤ q) → I' 28 q = I 28 q) ∧ (∀ a, a ≠ 28 → I' a = I a) ∧ J = J')) 59 [some (.ref (G.1 27)), some (.ref (G.1 21)), some (.int (nI (j + 1))), some (.int (nI m)), some (.int (nI x)), some (.int (nI R)), some (.int (nI (mw M m x))), some (.int (oI (mg M m x))), some (.int (nI B)), some (.int (nI i)), z10] [] I1 J := by
    refine x_for (fun i hi IH I1 z10 d1 o1 e1 => ?_)
    refine xr_iload dX2_buildBranch_59 rfl ?_
    refine xr_iload dX2_buildBranch_61 rfl ?_
    refine xr_icmp_ge 126 dX2_buildBranch_63 (by decide) (fun hc => ?_) (fun hc => ?_)
    · have : i = R := by have := nle hc; omega
      subst this
      refine xr_vret dX2_buildBranch_126 rfl rfl ⟨fun i' hi' => by rw [show 512 * m + sK (mK M) (j + 1) + (x * i + i') = B + i' by omega]; exact d1 i' hi', o1, e1, rfl⟩
    have hil := nlt hc
    have IH := IH hil
    have hmi := hmk2 i hil
    have K100 : ∀ v, mw M m x * R + v = mkp M (j + 1) m (x * R + i) → v < 2 ^ 31 → xT G M_X2_buildBranch (xMQ G (xpv fun I' J' => (∀ i, i < R → I' 28 (512 * m + sK (mK M) (j + 1) + (x * R + i)) = nI (mkp M (j + 1) m (x * R + i))) ∧ (∀ q, (q < B ∨ B + R ≤ q) → I' 28 q = I 28 q) ∧ (∀ a, a ≠ 28 → I' a = I a) ∧ J = J')) 100 [some (.ref (G.1 27)), some (.ref (G.1 21)), some (.int (nI (j + 1))), some (.int (nI m)), some (.int (nI x)), some (.int (nI R)), some (.int (nI (mw M m x))), some (.int (oI (mg M m x))), some (.int (nI B)), some (.int (nI i)), z10] [.int (nI v)] I1 J := by
      intro v hv hv31
      refine xr_istore dX2_buildBranch_100 (Nat.le_of_ble_eq_true rfl) ?_
      show xT _ _ _ 102 [_, _, _, _, _, _, _, _, _, _, _] _ _ _
      refine xr_aload0 dX2_buildBranch_102 rfl ?_
      refine xr_getR dX2_buildBranch_103 fk_2_11 lay_27 rfl ?_
      refine xr_iload dX2_buildBranch_106 rfl ?_
      refine xr_iload dX2_buildBranch_108 rfl ?_
      refine xr_iadd dX2_buildBranch_110 ?_
      refine xr_iload dX2_buildBranch_111 rfl ?_
      refine xr_iload dX2_buildBranch_113 rfl ?_
      show xT _ _ _ 115 _ _ _ _
      refine xr_imul dX2_buildBranch_115 ?_
      refine xr_iload dX2_buildBranch_116 rfl ?_
      refine xr_iadd dX2_buildBranch_118 ?_
      rw [nI_add, pk_mul, nI_add, hv]
      refine xr_iast (B + i) dX2_buildBranch_119 lay_28 rfl (by omega) (by decide) ?_
      refine xr_iinc dX2_buildBranch_120 rfl ii_1 (Nat.le_of_ble_eq_true rfl) ?_
      show xT _ _ _ 123 [_, _, _, _, _, _, _, _, _, _, _] _ _ _
      refine xr_goto 59 dX2_buildBranch_123 (by decide) ?_
      rw [k_1, nI_add]
      refine IH _ _ (fun i' hi' => ?_) (fun q hq => ?_) (fun a ha => by rw [va_up_ne _ _ ha]; exact e1 a ha)
      · rw [up_same]
        by_cases e : i' = i
        · rw [e, upd_same]
        · rw [upd_ne _ _ (by omega)]; exact d1 i' (by omega)
      · rw [up_same, upd_ne _ _ (by omega)]
        exact o1 q (by omega)
    refine xr_iload dX2_buildBranch_66 rfl ?_
    refine xr_icm1 dX2_buildBranch_68 ?_
    refine xr_icmp_ne 77 dX2_buildBranch_69 (by decide) (fun hg => ?_) (fun hg => ?_)
    · cases hgq : mg M m x with
      | none => rw [hgq] at hg; exact absurd rfl hg
      | some g =>
        obtain ⟨hgm, hg16⟩ := hgo g hgq
        rw [hgq] at hmi
        have vt : I1 28 (512 * g + sK (mK M) j + i) = nI (mkp M j g i) := by
          have hne : 512 * g + sK (mK M) j + i < B ∨ B + i ≤ 512 * g + sK (mK M) j + i := by
            rcases Nat.lt_trichotomy g m with q | q | q
            · left; omega
            · left; subst q; omega
            · right; omega
          rw [o1 _ hne]
          exact t3 g hgm i hil
        have vs : I1 30 j = nI (sK (mK M) j) := by rw [e1 30 (by decide)]; exact t2
        have hlt := mkp_lt hM hwh (n := j) (p := i) (mMarks_ok M g hgm)
        rw [hR] at hlt
        rw [hgq] at K100
        refine xr_aload0 dX2_buildBranch_77 rfl ?_
        refine xr_getR dX2_buildBranch_78 fk_2_11 lay_27 rfl ?_
        refine xr_iload dX2_buildBranch_81 rfl ?_
        refine xr_sip si_512 dX2_buildBranch_83 ?_
        refine xr_imul dX2_buildBranch_86 ?_
        refine xr_aload0 dX2_buildBranch_87 rfl ?_
        refine xr_getR dX2_buildBranch_88 fk_2_18 lay_27 rfl ?_
        refine xr_iload2 dX2_buildBranch_91 rfl ?_
        show xT _ _ _ 92 _ _ _ _
        refine xr_ic1 dX2_buildBranch_92 ?_
        refine xr_isub dX2_buildBranch_93 ?_
        rw [k_1, pk_sub (by omega), Nat.add_sub_cancel]
        refine xr_ialdv j dX2_buildBranch_94 lay_30 rfl (by omega) (by decide) vs ?_
        refine xr_iadd dX2_buildBranch_95 ?_
        refine xr_iload dX2_buildBranch_96 rfl ?_
        refine xr_iadd dX2_buildBranch_98 ?_
        rw [show oI (some g) = nI g from rfl, show (512 : Int32) = nI 512 from rfl, pk_mul, nI_add, nI_add, Nat.mul_comm g 512]
        refine xr_ialdv (512 * g + sK (mK M) j + i) dX2_buildBranch_99 lay_28 rfl (by omega) (by decide) vt ?_
        exact K100 _ hmi.symm (by omega)
    · have hno : mg M m x = none := by
        cases hgq : mg M m x with
        | none => rfl
        | some g =>
          rw [hgq] at hg
          have := (hgo g hgq).2
          have := congrArg Int32.toInt hg
          rw [show oI (some g) = nI g from rfl, nI_toInt (by omega), ti_m1] at this
          omega
      rw [hno] at hmi
      refine xr_iload dX2_buildBranch_72 rfl ?_
      refine xr_goto 100 dX2_buildBranch_74 (by decide) ?_
      exact K100 i hmi.symm (by omega)
  refine x_ent (by decide) (Nat.le_of_ble_eq_true rfl) rfl ?_
  show xT _ _ _ 0 [_, _, _, _, _, _, _, _, _, _, _] _ _ _
  refine xr_aload0 dX2_buildBranch_0 rfl ?_
  refine xr_getR dX2_buildBranch_1 fk_2_15 lay_27 rfl ?_
  refine xr_iload2 dX2_buildBranch_4 rfl ?_
  refine xr_ic1 dX2_buildBranch_5 ?_
  refine xr_isub dX2_buildBranch_6 ?_
  rw [k_1, pk_sub (by omega), Nat.add_sub_cancel]
  refine xr_ialdv j dX2_buildBranch_7 lay_29 rfl (by omega) (by decide) t1 ?_
  refine xr_istore dX2_buildBranch_8 (Nat.le_of_ble_eq_true rfl) ?_
  show xT _ _ _ 10 [_, _, _, _, _, _, _, _, _, _, _] _ _ _
  refine xr_aload1 dX2_buildBranch_10 rfl ?_
  refine xr_getR dX2_buildBranch_11 fk_2_58 lay_21 rfl ?_
  refine xr_iload3 dX2_buildBranch_14 rfl ?_
  refine xr_ic4 dX2_buildBranch_15 ?_
  refine xr_imul dX2_buildBranch_16 ?_
  refine xr_iload dX2_buildBranch_17 rfl ?_
  refine xr_iadd dX2_buildBranch_19 ?_
  show xT _ _ _ 20 _ _ _ _
  refine xr_ialdv (4 * m + x) dX2_buildBranch_20 lay_24 (by rw [k_4, pk_mul, nI_add, Nat.mul_comm]) (by omega) (by decide) v24 ?_
  refine xr_istore dX2_buildBranch_21 (Nat.le_of_ble_eq_true rfl) ?_
  show xT _ _ _ 23 [_, _, _, _, _, _, _, _, _, _, _] _ _ _
  refine xr_aload1 dX2_buildBranch_23 rfl ?_
  refine xr_getR dX2_buildBranch_24 fk_2_61 lay_21 rfl ?_
  refine xr_iload3 dX2_buildBranch_27 rfl ?_
  refine xr_ic4 dX2_buildBranch_28 ?_
  refine xr_imul dX2_buildBranch_29 ?_
  refine xr_iload dX2_buildBranch_30 rfl ?_
  refine xr_iadd dX2_buildBranch_32 ?_
  show xT _ _ _ 33 _ _ _ _
  refine xr_ialdv (4 * m + x) dX2_buildBranch_33 lay_25 (by rw [k_4, pk_mul, nI_add, Nat.mul_comm]) (by omega) (by decide) v25 ?_
  refine xr_istore dX2_buildBranch_34 (Nat.le_of_ble_eq_true rfl) ?_
  show xT _ _ _ 36 [_, _, _, _, _, _, _, _, _, _, _] _ _ _
  refine xr_iload3 dX2_buildBranch_36 rfl ?_
  refine xr_sip si_512 dX2_buildBranch_37 ?_
  refine xr_imul dX2_buildBranch_40 ?_
  refine xr_aload0 dX2_buildBranch_41 rfl ?_
  refine xr_getR dX2_buildBranch_42 fk_2_18 lay_27 rfl ?_
  refine xr_iload2 dX2_buildBranch_45 rfl ?_
  refine xr_ialdv (j + 1) dX2_buildBranch_46 lay_30 rfl (by omega) (by decide) h30 ?_
  show xT _ _ _ 47 _ _ _ _
  refine xr_iadd dX2_buildBranch_47 ?_
  refine xr_iload dX2_buildBranch_48 rfl ?_
  refine xr_iload dX2_buildBranch_50 rfl ?_
  refine xr_imul dX2_buildBranch_52 ?_
  refine xr_iadd dX2_buildBranch_53 ?_
  rw [show (512 : Int32) = nI 512 from rfl, pk_mul, nI_add, pk_mul, nI_add, Nat.mul_comm m 512, hB]
  refine xr_istore dX2_buildBranch_54 (Nat.le_of_ble_eq_true rfl) ?_
  show xT _ _ _ 56 [_, _, _, _, _, _, _, _, _, _, _] _ _ _
  refine xr_ic0 dX2_buildBranch_56 ?_
  refine xr_istore dX2_buildBranch_57 (Nat.le_of_ble_eq_true rfl) ?_
  show xT _ _ _ 59 [_, _, _, _, _, _, _, _, _, _, _] _ _ _
  exact L 0 (Nat.zero_le _) I _ (fun i' hi' => absurd hi' (Nat.not_lt_zero _)) (fun q _ => rfl) (fun a _ => rfl)
end C25
