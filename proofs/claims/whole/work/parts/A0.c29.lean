section C29
variable {G : xG} {I : xI} {J : xJ}
/-- what the class keeps of such a walk -/
def bfM (I : xI) (M : xMac) (d0 : Nat → Int32) (N : Nat) (q : List Nat) (par tt dl : Nat → Nat) : Prop := (∀ i (h : i < q.length), I 32 i = nI q[i] ∧ I 31 q[i] = nI (dl i) ∧ (0 < i → I 33 q[i] = nI (q.getD (par i) 0) ∧ I 34 q[i] = nI (mk_ M (tt i)))) ∧ ∀ p, p < N → p ∉ q → I 31 p = d0 p
theorem c2_spread {M : xMac} (hm : cMc I M) (hwh : mWhole M) {n bt : Nat} (hn : mK M ^ n ≤ 256) (htb : cTb I M bt) (hbt : n < bt) {f : Nat} (hf : f < mK M ^ n) (bk : Bool) {V : Nat → Prop} {d0 : Nat → Int32} (hd : ∀ p, p < mK M ^ n → I 31 p = d0 p) (hd0 : ∀ p, p < mK M ^ n → (d0 p < 0 ↔ ¬ V p)) (hfV : ¬ V f) : xCon G M_X2_spread [.ref (G.1 27), .ref (G.1 21), .int (nI n), .int (nI f), .int (b2 bk)] I J (xpi fun v I' J' => (∃ q par tt dl, v = nI q.length ∧ bfs M n (fun m => !bk || mB M (m / 2)) V f q par tt dl q.length 0 ∧ bfM I' M d0 (mK M ^ n) q par tt dl) ∧ (∀ a, a ∉ [31, 32, 33, 34] → I' a = I a) ∧ J = J') := by
  have hM := hm.1.1
  have hK2 := hM.1
  have hN8 := hM.2.2.1
  have hml := mMarks_len M
  have hn8 := lvl_8 hK2 hn
  have hs1 := sK_lt hK2 n
  obtain ⟨t1, t2, t3⟩ := htb n hbt
  have hmkl : ∀ m ∈ mMarks M, ∀ p, mkp M n m p < mK M ^ n := fun m hmm p => mkp_lt hM hwh (mMarks_ok M m hmm)
  have L : ∀ h, h ≤ 256 → ∀ I1 q par tt dl (z7 z8 z9 z10 : Option Value), h ≤ q.length → bfs M n (fun m => !bk || mB M (m / 2)) V f q par tt dl h 0 → bfM I1 M d0 (mK M ^ n) q par tt dl → (∀ a, a ∉ [31, 32, 33, 34] → I1 a = I a) → xT G M_X2_spread (xMQ G (xpi fun v I' J' => (∃ q par tt dl, v = nI q.length ∧ bfs M n (fun m => !bk || mB M (m / 2)) V f q par tt dl q.length 0 ∧ bfM I' M d0 (mK M ^ n) q par tt dl) ∧ (∀ a, a ∉ [31, 32, 33, 34] → I' a = I a) ∧ J = J')) 20 [some (.ref (G.1 27)), some (.ref (G.1 21)), some (.int (nI n)), some (.int (nI f)), some (.int (b2 bk)), some (.int (nI q.length)), some (.int (nI h)), z7, z8, z9, z10] [] I1 J := by
    refine x_for (fun h hh IH I1 q par tt dl z7 z8 z9 z10 hhl b1 m1 e1 => ?_)
    have hlen := b1.len
    refine xr_iload dX2_spread_20 rfl ?_
    refine xr_iload dX2_spread_22 rfl ?_
    refine xr_icmp_ge 172 dX2_spread_24 (by decide) (fun hge => ?_) (fun hge => ?_)
    · have : h = q.length := by have := nle hge; omega
      subst this
      refine xr_iload dX2_spread_172 rfl ?_
      refine xr_iret dX2_spread_174 rfl rfl ⟨⟨q, par, tt, dl, rfl, b1, m1⟩, e1, rfl⟩
    have hhq := nlt hge
    refine xr_iload dX2_spread_27 rfl ?_
    refine xr_sip si_256 dX2_spread_29 ?_
    refine xr_icmp_ge 172 dX2_spread_32 (by decide) (fun hge2 => ?_) (fun hge2 => ?_)
    · have := nle (b := 256) hge2; omega
    have IH := IH (by omega)
    have v32 := (m1.1 h hhq).1
    refine xr_aload0 dX2_spread_35 rfl ?_
    refine xr_getR dX2_spread_36 fk_2_24 lay_27 rfl ?_
    refine xr_iload dX2_spread_39 rfl ?_
    refine xr_ialdv h dX2_spread_41 lay_32 rfl (by omega) (by decide) v32 ?_
    refine xr_istore dX2_spread_42 (Nat.le_of_ble_eq_true rfl) ?_
    show xT _ _ _ 44 [_, _, _, _, _, _, _, _, _, _, _] _ _ _
    refine xr_ic0 dX2_spread_44 ?_
    refine xr_istore dX2_spread_45 (Nat.le_of_ble_eq_true rfl) ?_
    show xT _ _ _ 47 [_, _, _, _, _, _, _, _, _, _, _] _ _ _
    have Lk : ∀ k, k ≤ (mMarks M).length → ∀ I2 q par tt dl (z9 z10 : Option Value), (hhq : h < q.length) → bfs M n (fun m => !bk || mB M (m / 2)) V f q par tt dl h k → bfM I2 M d0 (mK M ^ n) q par tt dl → (∀ a, a ∉ [31, 32, 33, 34] → I2 a = I a) → xT G M_X2_spread (xMQ G (xpi fun v I' J' => (∃ q par tt dl, v = nI q.length ∧ bfs M n (fun m => !bk || mB M (m / 2)) V f q par tt dl q.length 0 ∧ bfM I' M d0 (mK M ^ n) q par tt dl) ∧ (∀ a, a ∉ [31, 32, 33, 34] → I' a = I a) ∧ J = J')) 47 [some (.ref (G.1 27)), some (.ref (G.1 21)), some (.int (nI n)), some (.int (nI f)), some (.int (b2 bk)), some (.int (nI q.length)), some (.int (nI h)), some (.int (nI q[h])), some (.int (nI k)), z9, z10] [] I2 J := by
      refine x_for (fun k hk IHk I2 q par tt dl z9 z10 hhq b2' m2 e2 => ?_)
      have hlen2 := b2'.len
      have mc2 : cMc I2 M := hm.cg (fun a h1 h2 => e2 a (by simp only [List.mem_cons, List.not_mem_nil, or_false]; omega))
      refine xr_iload dX2_spread_47 rfl ?_
      refine xr_aload1 dX2_spread_49 rfl ?_
      refine xr_getIv dX2_spread_50 fk_2_48 lay_21 rfl mc2.2.2.2.1.1 ?_
      refine xr_icmp_ge 166 dX2_spread_53 (by decide) (fun hc => ?_) (fun hc => ?_)
      · have : k = (mMarks M).length := by have := nle hc; omega
        subst this
        refine xr_iinc dX2_spread_166 rfl ii_1 (Nat.le_of_ble_eq_true rfl) ?_
        show xT _ _ _ 169 [_, _, _, _, _, _, _, _, _, _, _] _ _ _
        refine xr_goto 20 dX2_spread_169 (by decide) ?_
        rw [k_1, nI_add]
        exact IH I2 q par tt dl _ _ _ _ (by omega) (b2'.next hhq) m2 e2
      have hkl := nlt hc
      have IHk := IHk hkl
      have hmm := List.getElem_mem hkl
      have hmke : mk_ M k = (mMarks M)[k] := marks_getD hkl
      have hqg : q.getD h 0 = q[h] := by rw [List.getD_eq_getElem?_getD, List.getElem?_eq_getElem hhq]; rfl
      have v26 : I2 26 k = nI (mk_ M k) := by
        have := mc2.2.2.2.1.2 k hkl
        rw [Nat.zero_add] at this
        rw [hmke]; exact this
      have hmm' : mk_ M k ∈ mMarks M := by rw [hmke]; exact hmm
      have hm16 := marks_16 hM hmm'
      have hqN := (b2'.1.2.2 _ (List.getElem_mem hhq)).1
      have hxN := hmkl _ hmm' q[h]
      have v30 : I2 30 n = nI (sK (mK M) n) := by rw [e2 30 (by decide)]; exact t2
      have vt : I2 28 (512 * mk_ M k + sK (mK M) n + q[h]) = nI (mkp M n (mk_ M k) q[h]) := by rw [e2 28 (by decide)]; exact t3 _ hmm' _ hqN
      have bsk := b2'.skip hhq
      have bad := b2'.add hhq hkl
      rw [hqg] at bsk bad
      generalize hx : mkp M n (mk_ M k) q[h] = x at *
      have K160 : ∀ I3 q' par' tt' dl' (hl' : h < q'.length), q'[h] = q[h] → bfs M n (fun m => !bk || mB M (m / 2)) V f q' par' tt' dl' h (k + 1) → bfM I3 M d0 (mK M ^ n) q' par' tt' dl' → (∀ a, a ∉ [31, 32, 33, 34] → I3 a = I a) → xT G M_X2_spread (xMQ G (xpi fun v I' J' => (∃ q par tt dl, v = nI q.length ∧ bfs M n (fun m => !bk || mB M (m / 2)) V f q par tt dl q.length 0 ∧ bfM I' M d0 (mK M ^ n) q par tt dl) ∧ (∀ a, a ∉ [31, 32, 33, 34] → I' a = I a) ∧ J = J')) 160 [some (.ref (G.1 27)), some (.ref (G.1 21)), some (.int (nI n)), some (.int (nI f)), some (.int (b2 bk)), some (.int (nI q'.length)), some (.int (nI h)), some (.int (nI q[h])), some (.int (nI k)), some (.int (nI (mk_ M k))), some (.int (nI x))] [] I3 J := by
        intro I3 q' par' tt' dl' hl' hqe b3 m3 e3
        refine xr_iinc dX2_spread_160 rfl ii_1 (Nat.le_of_ble_eq_true rfl) ?_
        show xT _ _ _ 163 [_, _, _, _, _, _, _, _, _, _, _] _ _ _
        refine xr_goto 47 dX2_spread_163 (by decide) ?_
        rw [k_1, nI_add]
        have := IHk I3 q' par' tt' dl' (some (.int (nI (mk_ M k)))) (some (.int (nI x))) hl' b3 m3 e3
        rw [hqe] at this
        exact this
      have hxq : (x ∈ q ∧ ∃ i, ∃ (hi : i < q.length), q[i] = x) ∨ (x ∉ q ∧ I2 31 x = d0 x) := by
        by_cases e : x ∈ q
        · exact Or.inl ⟨e, List.getElem_of_mem e⟩
        · exact Or.inr ⟨e, m2.2 x hxN e⟩
      refine xr_aload1 dX2_spread_56 rfl ?_
      refine xr_getR dX2_spread_57 fk_2_51 lay_21 rfl ?_
      refine xr_iload dX2_spread_60 rfl ?_
      refine xr_ialdv k dX2_spread_62 lay_26 rfl (by omega) (by decide) v26 ?_
      refine xr_istore dX2_spread_63 (Nat.le_of_ble_eq_true rfl) ?_
      show xT _ _ _ 65 [_, _, _, _, _, _, _, _, _, _, _] _ _ _
      refine xr_aload0 dX2_spread_65 rfl ?_
      refine xr_getR dX2_spread_66 fk_2_11 lay_27 rfl ?_
      refine xr_iload dX2_spread_69 rfl ?_
      refine xr_sip si_512 dX2_spread_71 ?_
      refine xr_imul dX2_spread_74 ?_
      refine xr_aload0 dX2_spread_75 rfl ?_
      refine xr_getR dX2_spread_76 fk_2_18 lay_27 rfl ?_
      show xT _ _ _ 79 _ _ _ _
      refine xr_iload2 dX2_spread_79 rfl ?_
      refine xr_ialdv n dX2_spread_80 lay_30 rfl (by omega) (by decide) v30 ?_
      refine xr_iadd dX2_spread_81 ?_
      refine xr_iload dX2_spread_82 rfl ?_
      refine xr_iadd dX2_spread_84 ?_
      rw [show (512 : Int32) = nI 512 from rfl, pk_mul, nI_add, nI_add, Nat.mul_comm _ 512]
      refine xr_ialdv (512 * mk_ M k + sK (mK M) n + q[h]) dX2_spread_85 lay_28 rfl (by omega) (by decide) vt ?_
      refine xr_istore dX2_spread_86 (Nat.le_of_ble_eq_true rfl) ?_
      show xT _ _ _ 88 [_, _, _, _, _, _, _, _, _, _, _] _ _ _
      refine xr_aload0 dX2_spread_88 rfl ?_
      refine xr_getR dX2_spread_89 fk_2_21 lay_27 rfl ?_
      refine xr_iload dX2_spread_92 rfl ?_
      refine xr_iald x dX2_spread_94 lay_31 rfl (by omega) (by decide) ?_
      rcases hxq with ⟨hxm, i, hi, hie⟩ | ⟨hxm, hxd⟩
      · have vd : I2 31 x = nI (dl i) := by rw [← hie]; exact (m2.1 i hi).2.1
        have hdli : dl i < 2 ^ 31 := by
          have key : ∀ i, i < q.length → dl i ≤ i := by
            intro i
            induction i using x_lt with
            | h i IHi =>
              intro hi
              rcases Nat.eq_zero_or_pos i with e | e
              · rw [e, b2'.2.1.1]; exact Nat.le_refl _
              · obtain ⟨c1, -, -, -, -, c6⟩ := b2'.2.1.2 i e hi
                have := IHi (par i) c1 (by omega)
                omega
          have := key i hi
          omega
        rw [vd]
        refine xr_if_ge 160 dX2_spread_95 (by decide) (fun hz => ?_) (fun hz => ?_)
        rotate_left
        · exact absurd (nI_pos' hdli) hz
        exact K160 I2 q par tt dl hhq rfl (bsk (Or.inr (Or.inr hxm))) m2 e2
      rw [hxd]
      have hdV := hd0 x hxN
      refine xr_if_ge 160 dX2_spread_95 (by decide) (fun hz => ?_) (fun hz => ?_)
      · have hVx : V x := by
          refine Classical.byContradiction (fun hq => ?_)
          have := hdV.mpr hq
          rw [lt_toInt, ti_0] at this
          rw [le_toInt, ti_0] at hz
          omega
        exact K160 I2 q par tt dl hhq rfl (bsk (Or.inr (Or.inl hVx))) m2 e2
      have hVx : ¬ V x := hdV.mp (by rw [lt_toInt, ti_0]; rw [le_toInt, ti_0] at hz; omega)
      have K114 : (!bk || mB M (mk_ M k / 2)) = true → xT G M_X2_spread (xMQ G (xpi fun v I' J' => (∃ q par tt dl, v = nI q.length ∧ bfs M n (fun m => !bk || mB M (m / 2)) V f q par tt dl q.length 0 ∧ bfM I' M d0 (mK M ^ n) q par tt dl) ∧ (∀ a, a ∉ [31, 32, 33, 34] → I' a = I a) ∧ J = J')) 114 [some (.ref (G.1 27)), some (.ref (G.1 21)), some (.int (nI n)), some (.int (nI f)), some (.int (b2 bk)), some (.int (nI q.length)), some (.int (nI h)), some (.int (nI q[h])), some (.int (nI k)), some (.int (nI (mk_ M k))), some (.int (nI x))] [] I2 J := by
        intro ho
        have badd := bad ho hVx hxm hxN
        have hl2 := badd.len
        rw [List.length_append, List.length_singleton] at hl2
        have vdh := (m2.1 h hhq).2.1
        refine xr_aload0 dX2_spread_114 rfl ?_
        refine xr_getR dX2_spread_115 fk_2_21 lay_27 rfl ?_
        refine xr_iload dX2_spread_118 rfl ?_
        refine xr_aload0 dX2_spread_120 rfl ?_
        refine xr_getR dX2_spread_121 fk_2_21 lay_27 rfl ?_
        refine xr_iload dX2_spread_124 rfl ?_
        refine xr_ialdv q[h] dX2_spread_126 lay_31 rfl (by omega) (by decide) vdh ?_
        refine xr_ic1 dX2_spread_127 ?_
        refine xr_iadd dX2_spread_128 ?_
        rw [k_1, nI_add]
        refine xr_iast x dX2_spread_129 lay_31 rfl (by omega) (by decide) ?_
        generalize hI3 : va_up I2 31 (upd (I2 31) x (nI (dl h + 1))) = I3
        refine xr_aload0 dX2_spread_130 rfl ?_
        refine xr_getR dX2_spread_131 fk_2_27 lay_27 rfl ?_
        refine xr_iload dX2_spread_134 rfl ?_
        refine xr_iload dX2_spread_136 rfl ?_
        refine xr_iast x dX2_spread_138 lay_33 rfl (by omega) (by decide) ?_
        generalize hI4 : va_up I3 33 (upd (I3 33) x (nI q[h])) = I4
        refine xr_aload0 dX2_spread_139 rfl ?_
        refine xr_getR dX2_spread_140 fk_2_30 lay_27 rfl ?_
        refine xr_iload dX2_spread_143 rfl ?_
        refine xr_iload dX2_spread_145 rfl ?_
        refine xr_iast x dX2_spread_147 lay_34 rfl (by omega) (by decide) ?_
        generalize hI5 : va_up I4 34 (upd (I4 34) x (nI (mk_ M k))) = I5
        refine xr_aload0 dX2_spread_148 rfl ?_
        refine xr_getR dX2_spread_149 fk_2_24 lay_27 rfl ?_
        refine xr_iload dX2_spread_152 rfl ?_
        refine xr_iinc dX2_spread_154 rfl ii_1 (Nat.le_of_ble_eq_true rfl) ?_
        show xT _ _ _ 157 [_, _, _, _, _, _, _, _, _, _, _] _ _ _
        refine xr_iload dX2_spread_157 rfl ?_
        refine xr_iast (q.length) dX2_spread_159 lay_32 rfl (by omega) (by decide) ?_
        rw [k_1, nI_add]
        generalize hI6 : va_up I5 32 (upd (I5 32) q.length (nI x)) = I6
        have e31 : I6 31 = upd (I2 31) x (nI (dl h + 1)) := by rw [← hI6, va_up_ne _ _ (by decide), ← hI5, va_up_ne _ _ (by decide), ← hI4, va_up_ne _ _ (by decide), ← hI3, up_same]
        have e33 : I6 33 = upd (I2 33) x (nI q[h]) := by rw [← hI6, va_up_ne _ _ (by decide), ← hI5, va_up_ne _ _ (by decide), ← hI4, up_same, ← hI3, va_up_ne _ _ (by decide)]
        have e34 : I6 34 = upd (I2 34) x (nI (mk_ M k)) := by rw [← hI6, va_up_ne _ _ (by decide), ← hI5, up_same, ← hI4, va_up_ne _ _ (by decide), ← hI3, va_up_ne _ _ (by decide)]
        have e32 : I6 32 = upd (I2 32) q.length (nI x) := by rw [← hI6, up_same, ← hI5, va_up_ne _ _ (by decide), ← hI4, va_up_ne _ _ (by decide), ← hI3, va_up_ne _ _ (by decide)]
        have hk160 := K160 I6 _ _ _ _ (by rw [List.length_append]; omega) (by rw [List.getElem_append_left hhq]) badd ⟨fun i hi => ?_, fun p hp hpq => ?_⟩ (fun a ha => ?_)
        · rw [List.length_append, List.length_singleton] at hk160
          exact hk160
        · rw [List.length_append, List.length_singleton] at hi
          rw [e31, e32, e33, e34]
          dsimp only
          by_cases e : i = q.length
          · subst e
            have hlx : (q ++ [x])[q.length] = x := by simp
            rw [hlx, upd_same, upd_same, upd_same, upd_same, if_pos rfl, if_pos rfl, if_pos rfl, getD_app hhq, hqg]
            exact ⟨rfl, rfl, fun _ => ⟨rfl, rfl⟩⟩
          · have hil : i < q.length := by omega
            have hne : q[i] ≠ x := fun q' => hxm (by rw [← q']; exact List.getElem_mem hil)
            rw [List.getElem_append_left hil, upd_ne _ _ e, upd_ne _ _ hne, upd_ne _ _ hne, upd_ne _ _ hne, if_neg e, if_neg e, if_neg e]
            obtain ⟨w1, w2, w3⟩ := m2.1 i hil
            refine ⟨w1, w2, fun hi0 => ?_⟩
            have := (b2'.2.1.2 i hi0 hil).1
            rw [getD_app (by omega)]
            exact w3 hi0
        · have hpx : p ≠ x := fun e => hpq (by rw [e]; simp)
          rw [e31, upd_ne _ _ hpx]
          exact m2.2 p hp (fun q' => hpq (List.mem_append_left _ q'))
        · rw [← hI6, va_up_ne _ _ (fun q => ha (by rw [q]; simp)), ← hI5, va_up_ne _ _ (fun q => ha (by rw [q]; simp)), ← hI4, va_up_ne _ _ (fun q => ha (by rw [q]; simp)), ← hI3, va_up_ne _ _ (fun q => ha (by rw [q]; simp))]
          exact e2 a ha
      refine xr_iload dX2_spread_98 rfl ?_
      refine xr_if_eq 114 dX2_spread_100 (by decide) (fun hbk => ?_) (fun hbk => ?_)
      · have hbk := b2_0.mp hbk
        exact K114 (by rw [hbk]; rfl)
      have hbk : bk = true := by
        cases bk with
        | true => rfl
        | false => exact absurd rfl hbk
      refine xr_aload1 dX2_spread_103 rfl ?_
      refine xr_iload dX2_spread_104 rfl ?_
      refine xr_ic1 dX2_spread_106 ?_
      refine xr_ishr dX2_spread_107 ?_
      rw [shr1 hm16]
      refine xr_cVi [_] dX2_spread_108 (xcv_of cf_X3_isBack ml_2_64 (by decide)) rfl lay_21 rfl rfl rfl (Nat.le_of_ble_eq_true rfl) (c3_isBack mc2.2.1 (by omega)) (fun v I3 J3 hc3 => ?_)
      obtain ⟨rfl, rfl, rfl⟩ := hc3
      refine xr_if_eq 160 dX2_spread_111 (by decide) (fun hb => ?_) (fun hb => ?_)
      · have hb := b2_0.mp hb
        exact K160 I2 q par tt dl hhq rfl (bsk (Or.inl (by show (!bk || mB M (mk_ M k / 2)) = false; rw [hbk, hb]; rfl))) m2 e2
      · exact K114 (by
          cases hq : mB M (mk_ M k / 2) with
          | true => rw [Bool.or_true]
          | false => rw [hq] at hb; exact absurd rfl hb)
    exact Lk 0 (Nat.zero_le _) I1 q par tt dl _ _ hhq b1 m1 e1
  refine x_ent (by decide) (Nat.le_of_ble_eq_true rfl) rfl ?_
  show xT _ _ _ 0 [_, _, _, _, _, _, _, _, _, _, _] _ _ _
  refine xr_ic1 dX2_spread_0 ?_
  refine xr_istore dX2_spread_1 (Nat.le_of_ble_eq_true rfl) ?_
  show xT _ _ _ 3 [_, _, _, _, _, _, _, _, _, _, _] _ _ _
  refine xr_aload0 dX2_spread_3 rfl ?_
  refine xr_getR dX2_spread_4 fk_2_24 lay_27 rfl ?_
  refine xr_ic0 dX2_spread_7 ?_
  refine xr_iload3 dX2_spread_8 rfl ?_
  refine xr_iast 0 dX2_spread_9 lay_32 rfl (by decide) (by decide) ?_
  generalize hI1 : va_up I 32 (upd (I 32) 0 (nI f)) = I1
  refine xr_aload0 dX2_spread_10 rfl ?_
  refine xr_getR dX2_spread_11 fk_2_21 lay_27 rfl ?_
  refine xr_iload3 dX2_spread_14 rfl ?_
  refine xr_ic0 dX2_spread_15 ?_
  refine xr_iast f dX2_spread_16 lay_31 rfl (by omega) (by decide) ?_
  generalize hI2 : va_up I1 31 (upd (I1 31) f 0) = I2
  refine xr_ic0 dX2_spread_17 ?_
  refine xr_istore dX2_spread_18 (Nat.le_of_ble_eq_true rfl) ?_
  show xT _ _ _ 20 [_, _, _, _, _, _, _, _, _, _, _] _ _ _
  have e31 : I2 31 = upd (I 31) f 0 := by rw [← hI2, up_same, ← hI1, va_up_ne _ _ (by decide)]
  have e32 : I2 32 = upd (I 32) 0 (nI f) := by rw [← hI2, va_up_ne _ _ (by decide), ← hI1, up_same]
  refine L 0 (by decide) I2 [f] (fun _ => 0) (fun _ => 0) (fun _ => 0) _ _ _ _ (Nat.zero_le _) (bfs.init hf hfV) ⟨fun i hi => ?_, fun p hp hpq => ?_⟩ (fun a ha => ?_)
  · have : i = 0 := by simp at hi; omega
    subst this
    rw [e31, e32]
    refine ⟨by rw [upd_same]; rfl, ?_, fun q => absurd q (Nat.lt_irrefl _)⟩
    show upd (I 31) f 0 f = nI 0
    rw [upd_same]; rfl
  · rw [e31, upd_ne _ _ (fun q => hpq (by rw [q]; simp))]; exact hd p hp
  · rw [← hI2, va_up_ne _ _ (fun q => ha (by rw [q]; simp)), ← hI1, va_up_ne _ _ (fun q => ha (by rw [q]; simp))]
end C29
