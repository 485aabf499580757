section M21
variable {G : xG} {I : xI} {J : xJ}
theorem mMk_ok (M : xMac) : ∀ s, s ≤ mN M → ∀ m ∈ mMk M s, mOkm M m
  | 0, _, m, h => by simp [mMk] at h
  | s + 1, hs, m, h => by
    rw [mMk_succ] at h
    rcases List.mem_append.mp h with h | h
    · exact mMk_ok M s (by omega) m h
    · cases hb : mB M s with
      | true =>
        rw [hb] at h
        simp at h
        rcases h with rfl | rfl
        · exact ⟨by omega, fun q => by omega⟩
        · exact ⟨by omega, fun _ => by rw [show (2 * s + 1) / 2 = s by omega]; exact mB_iff.mp hb⟩
      | false =>
        rw [hb] at h
        simp at h
        subst h
        exact ⟨by omega, fun q => by omega⟩
theorem mMarks_ok (M : xMac) : ∀ m ∈ mMarks M, mOkm M m := mMk_ok M (mN M) (Nat.le_refl _)
theorem mkp_lt {M : xMac} (hM : mOk M) (hwh : mWhole M) {n m p : Nat} (hm : mOkm M m) : mkp M n m p < mK M ^ n := by
  have hr := mact_ok hM hwh (rOfP (mK M) n p) (some m) (fun q hq => by cases hq; exact hm) (rOfP_lt (by have := hM.1; omega) n p)
  have := plc_lt _ hr
  rw [mact_len, rOfP_len] at this
  exact this
def mLv (I : xI) (M : xMac) (n : Nat) : Prop := I 77 28 = nI (mK M ^ n) ∧ mTk I M ∧ ∀ t (ht : t < (mMarks M).length) p, p < mK M ^ n → I 96 (256 * t + p) = nI (mkp M n (mMarks M)[t] p)
theorem lvl_8 {K n : Nat} (hK : 2 ≤ K) (h : K ^ n ≤ 256) : n ≤ 8 := by
  apply Classical.byContradiction
  intro q
  have h1 : 2 ^ 9 ≤ K ^ n := Nat.le_trans (Nat.pow_le_pow_left hK 9) (Nat.pow_le_pow_right (by omega) (by omega))
  have h2 : 2 ^ 9 = 512 := by decide
  omega
theorem c9_findLevel {M : xMac} (h : mMach I M) (hwh : mWhole M) {n : Nat} (hn : mK M ^ n ≤ 256) : xCon G M_X9_findLevel [.ref (G.1 77), .int (nI n)] I J (xpv fun I' J' => mLv I' M n ∧ mfx [85, 86, 88, 96] [11, 13, 14, 16, 28] I I' ∧ J = J') := by
  have hK2 := h.1.1
  have hN8 := h.1.2.2.1
  have hn8 := lvl_8 hK2 hn
  have hml := mMarks_len M
  have hn31 : w2n (nI n) = n := w2n_nI (by omega)
  have hlv : lvl (mK M) (nI n) 256 = some n := by
    have := lvl_pos (K := mK M) (v := nI n) (most := 256) (by rw [nI_toInt (by omega)]; omega) (by rw [hn31]; exact hn)
    rw [hn31] at this
    exact this
  refine x_ent (by decide) (Nat.le_of_ble_eq_true rfl) rfl ?_
  show xT _ _ _ 0 [_, _, _, _] _ _ _
  refine xr_aload0 dX9_findLevel_0 rfl ?_
  refine xr_aload0 dX9_findLevel_1 rfl ?_
  refine xr_iload1 dX9_findLevel_2 rfl ?_
  refine xr_sip si_256 dX9_findLevel_3 ?_
  rw [k_256]
  refine xr_cVi [_, _] dX9_findLevel_6 (xcv_of cf_X9_rowsOf ml_9_223 (by decide)) rfl lay_77 rfl rfl rfl (Nat.le_of_ble_eq_true rfl) (c9_rowsOf h (nI n) (by decide) (by decide)) (fun v I1 J1 hc => ?_)
  obtain ⟨rfl, rfl, rfl⟩ := hc
  rw [hlv]
  refine xr_putI dX9_findLevel_9 fp_9_226 lay_77 rfl ?_
  refine xr_aload0 dX9_findLevel_12 rfl ?_
  refine xr_cVv [] dX9_findLevel_13 (xcv_of cf_X9_findTokens ml_9_130 (by decide)) rfl lay_77 rfl rfl rfl (Nat.le_of_ble_eq_true rfl) (c9_findTokens ((mfx.rf.up7 (A := []) (T := [28]) (j := 28) _ (by decide)).mach h (by decide) (by decide))) (fun I2 J2 hc => ?_)
  obtain ⟨tk2, f2, rfl⟩ := hc
  have f2' : mfx [85, 86, 88, 96] [11, 13, 14, 16, 28] I I2 := (mfx.rf.up7 (j := 28) _ (by decide)).tr (f2.mono (by simp) (by simp))
  have h28 : I2 77 28 = nI (mK M ^ n) := by rw [f2.2 28 (by decide), up_same, upd_same]
  refine xr_ic0 dX9_findLevel_16 ?_
  refine xr_istore2 dX9_findLevel_17 (Nat.le_of_ble_eq_true rfl) ?_
  show xT _ _ _ 18 [_, _, _, _] _ _ _
  have L : ∀ t, t ≤ (mMarks M).length → ∀ I3 (z3 : Option Value), mfx [85, 86, 88, 96] [11, 13, 14, 16, 28] I I3 → mTk I3 M → I3 77 28 = nI (mK M ^ n) → (∀ t' (ht : t' < (mMarks M).length) p, t' < t → p < mK M ^ n → I3 96 (256 * t' + p) = nI (mkp M n (mMarks M)[t'] p)) → xT G M_X9_findLevel (xMQ G (xpv fun I' J' => mLv I' M n ∧ mfx [85, 86, 88, 96] [11, 13, 14, 16, 28] I I' ∧ J = J')) 18 [some (.ref (G.1 77)), some (.int (nI n)), some (.int (nI t)), z3] [] I3 J := by
    refine x_for (fun t ht IH I3 z3 f3 tk3 h3 hd => ?_)
    refine xr_iload2 dX9_findLevel_18 rfl ?_
    refine xr_aload0 dX9_findLevel_19 rfl ?_
    refine xr_getIv dX9_findLevel_20 fk_9_127 lay_77 rfl tk3.1 ?_
    refine xr_icmp_ge 80 dX9_findLevel_23 (by decide) (fun hc => ?_) (fun hc => ?_)
    · have : t = (mMarks M).length := by have := nle hc; omega
      refine xr_vret dX9_findLevel_80 rfl rfl ⟨⟨h3, tk3, fun t' ht' p hp => hd t' ht' p (by omega) hp⟩, f3, rfl⟩
    · have htl := nlt hc
      have IH := IH htl
      have hmo := mMarks_ok M _ (List.getElem_mem htl)
      refine xr_ic0 dX9_findLevel_26 ?_
      refine xr_istore3 dX9_findLevel_27 (Nat.le_of_ble_eq_true rfl) ?_
      show xT _ _ _ 28 [_, _, _, _] _ _ _
      have L2 : ∀ p, p ≤ mK M ^ n → ∀ I4, mfx [85, 86, 88, 96] [11, 13, 14, 16, 28] I I4 → mTk I4 M → I4 77 28 = nI (mK M ^ n) → (∀ t' (ht : t' < (mMarks M).length) p, t' < t → p < mK M ^ n → I4 96 (256 * t' + p) = nI (mkp M n (mMarks M)[t'] p)) → (∀ q, q < p → I4 96 (256 * t + q) = nI (mkp M n (mMarks M)[t] q)) → xT G M_X9_findLevel (xMQ G (xpv fun I' J' => mLv I' M n ∧ mfx [85, 86, 88, 96] [11, 13, 14, 16, 28] I I' ∧ J = J')) 28 [some (.ref (G.1 77)), some (.int (nI n)), some (.int (nI t)), some (.int (nI p))] [] I4 J := by
        refine x_for (fun p hp IH2 I4 f4 tk4 h4 hd4 hp4 => ?_)
        refine xr_iload3 dX9_findLevel_28 rfl ?_
        refine xr_aload0 dX9_findLevel_29 rfl ?_
        refine xr_getIv dX9_findLevel_30 fk_9_226 lay_77 rfl h4 ?_
        refine xr_icmp_ge 74 dX9_findLevel_33 (by decide) (fun hc2 => ?_) (fun hc2 => ?_)
        · have : p = mK M ^ n := by have := nle hc2; omega
          refine xr_iinc dX9_findLevel_74 rfl ii_1 (Nat.le_of_ble_eq_true rfl) ?_
          show xT _ _ _ 77 [_, _, _, _] _ _ _
          refine xr_goto 18 dX9_findLevel_77 (by decide) ?_
          rw [k_1, nI_add]
          refine IH I4 _ f4 tk4 h4 (fun t' ht' q h1 h2 => ?_)
          by_cases e : t' = t
          · subst e; exact hp4 q (by omega)
          · exact hd4 t' ht' q (by omega) h2
        · have hpl := nlt hc2
          have IH2 := IH2 hpl
          refine xr_aload0 dX9_findLevel_36 rfl ?_
          refine xr_iload3 dX9_findLevel_37 rfl ?_
          refine xr_iload1 dX9_findLevel_38 rfl ?_
          refine xr_cVv [_, _] dX9_findLevel_39 (xcv_of cf_X9_rowAt ml_9_229 (by decide)) rfl lay_77 rfl rfl rfl (Nat.le_of_ble_eq_true rfl) (c9_rowAt (f4.mach h (by decide) (by decide)) (p := p) (n := n) (by omega) (by omega)) (fun I5 J5 hc5 => ?_)
          obtain ⟨r5, f5, rfl⟩ := hc5
          have tk5 : mTk I5 M := ⟨by rw [f5.2 11 (by decide)]; exact tk4.1, by rw [f5.1 86 (by decide) (by decide)]; exact tk4.2⟩
          have ht5 : I5 86 t = tok (mMarks M)[t] := by
            have := tk5.2 t htl
            rw [Nat.zero_add] at this
            exact this
          have f45 := f4.tr (f5.mono (A' := [85, 86, 88, 96]) (T' := [11, 13, 14, 16, 28]) (by simp) (by simp))
          refine xr_aload0 dX9_findLevel_42 rfl ?_
          refine xr_aload0 dX9_findLevel_43 rfl ?_
          refine xr_getR dX9_findLevel_44 fk_9_39 lay_77 rfl ?_
          refine xr_iload2 dX9_findLevel_47 rfl ?_
          refine xr_ialdv _ dX9_findLevel_48 lay_86 rfl (by omega) (by decide) ht5 ?_
          refine xr_cVv [_] dX9_findLevel_49 (xcv_of cf_X9_rewrite ml_9_163 (by decide)) rfl lay_77 rfl rfl rfl (Nat.le_of_ble_eq_true rfl) (c9_rewrite (f45.mach h (by decide) (by decide)) hwh hmo r5 (by rw [rOfP_len]; omega) (rOfP_lt (by omega) n p)) (fun I6 J6 hc6 => ?_)
          obtain ⟨r6, f6, rfl⟩ := hc6
          have f56 := f45.tr (f6.mono (A' := [85, 86, 88, 96]) (T' := [11, 13, 14, 16, 28]) (by simp) (by simp))
          refine xr_aload0 dX9_findLevel_52 rfl ?_
          refine xr_getR dX9_findLevel_53 fk_9_69 lay_77 rfl ?_
          refine xr_sip si_256 dX9_findLevel_56 ?_
          refine xr_iload2 dX9_findLevel_59 rfl ?_
          refine xr_imul dX9_findLevel_60 ?_
          refine xr_iload3 dX9_findLevel_61 rfl ?_
          refine xr_iadd dX9_findLevel_62 ?_
          refine xr_aload0 dX9_findLevel_63 rfl ?_
          show xT _ _ _ 64 _ _ _ _
          refine xr_cVi [] dX9_findLevel_64 (xcv_of cf_X9_placeNow ml_9_232 (by decide)) rfl lay_77 rfl rfl rfl (Nat.le_of_ble_eq_true rfl) (c9_placeNow (f56.mach h (by decide) (by decide)) r6 (by rw [mact_len, rOfP_len]; omega)) (fun v I7 J7 hc7 => ?_)
          obtain ⟨rfl, rfl, rfl⟩ := hc7
          refine xr_iast _ dX9_findLevel_67 lay_96 (by (try simp only [k_0, k_1, k_2, k_3, k_4, k_5, k_8, k_16, k_34, k_40, k_200, k_201, k_256, k_512, nI_add, pk_mul]); first | done | rfl) (by omega) (by decide) ?_
          refine xr_iinc dX9_findLevel_68 rfl ii_1 (Nat.le_of_ble_eq_true rfl) ?_
          show xT _ _ _ 71 [_, _, _, _] _ _ _
          refine xr_goto 28 dX9_findLevel_71 (by decide) ?_
          rw [k_1, nI_add]
          have w96 : ∀ q, (va_up I6 96 (upd (I6 96) (256 * t + p) (nI (mkp M n (mMarks M)[t] p)))) 96 q = if q = 256 * t + p then nI (mkp M n (mMarks M)[t] p) else I4 96 q := fun q => by
            rw [up_same]
            by_cases e : q = 256 * t + p
            · rw [if_pos e, e, upd_same]
            · rw [if_neg e, upd_ne _ _ e, f6.1 96 (by decide) (by decide), f5.1 96 (by decide) (by decide)]
          refine IH2 _ (f56.up _ (by decide) (by decide)) ⟨by rw [va_up_ne _ _ (by decide), f6.2 11 (by decide)]; exact tk5.1, by rw [va_up_ne _ _ (by decide), f6.1 86 (by decide) (by decide)]; exact tk5.2⟩ (by rw [va_up_ne _ _ (by decide), f6.2 28 (by decide), f5.2 28 (by decide)]; exact h4) (fun t' ht' q h1 h2 => ?_) (fun q hq => ?_)
          · show va_up I6 96 (upd (I6 96) (256 * t + p) (nI (mkp M n (mMarks M)[t] p))) 96 _ = _
            rw [w96, if_neg (by omega)]
            exact hd4 t' ht' q h1 h2
          · show va_up I6 96 (upd (I6 96) (256 * t + p) (nI (mkp M n (mMarks M)[t] p))) 96 _ = _
            rw [w96]
            by_cases e : q = p
            · subst e; rw [if_pos rfl]
            · rw [if_neg (by omega)]; exact hp4 q (by omega)
      exact L2 0 (Nat.zero_le _) I3 f3 tk3 h3 hd (fun q hq => by omega)
  exact L 0 (Nat.zero_le _) I2 _ f2' tk2 h28 (fun t' ht' p h1 => by omega)
end M21
