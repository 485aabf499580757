section M09
variable {G : xG} {I : xI} {J : xJ}
/-- one step of a mark at a letter: fields becomes (13) and goesOn (14) -/
def stk (o : Option Nat) : Int32 := match o with
  | none => 0
  | some m => tok m
theorem mInv_some {M : xMac} {s y : Nat} (hf : mFair M s) {x : Nat} (hx : x < mK M) (hy : mWr M s x = y) : mInv M s y = x := by
  unfold mInv
  cases hc : (List.range (mK M)).find? (fun x => mWr M s x == y) with
  | none =>
    have := List.find?_eq_none.mp hc x (List.mem_range.mpr hx)
    exact absurd hy (by simpa using this)
  | some x' =>
    have h1 := List.find?_some hc
    have h2 := List.mem_range.mp (List.mem_of_find?_eq_some hc)
    have h1 : mWr M s x' = y := by simpa using h1
    show x' = x
    rcases Nat.lt_trichotomy x' x with h | h | h
    · exact absurd (hy.trans h1.symm) (hf x x' hx h)
    · exact h
    · exact absurd (h1.trans hy.symm) (hf x' x h2 h)
/-- a fair state brings every letter back -/
theorem fair_surj {K : Nat} (f : Nat → Nat) (hb : ∀ x, x < K → f x < K) (hf : ∀ x y, x < K → y < x → f x ≠ f y) : ∀ y, y < K → ∃ x, x < K ∧ f x = y := by
  intro y hy
  apply Classical.byContradiction
  intro hno
  have hno : ∀ x, x < K → f x ≠ y := fun x hx e => hno ⟨x, hx, e⟩
  -- count: the images of the letters below k
  have key : ∀ k, k ≤ K → k ≤ cnt (fun z => @decide (∃ x, x < k ∧ f x = z) (Classical.propDecidable _)) K := by
    intro k
    induction k with
    | zero => intro _; exact Nat.zero_le _
    | succ k IH =>
      intro hk
      have h1 := IH (by omega)
      refine Nat.lt_of_le_of_lt h1 (cnt_lt (g := f k) (fun t ht h => ?_) (hb k (by omega)) ?_ ?_)
      · simp only [decide_eq_true_eq] at h ⊢
        obtain ⟨x, hx, e⟩ := h
        exact ⟨x, by omega, e⟩
      · simp only [decide_eq_false_iff_not]
        rintro ⟨x, hx, e⟩
        exact hf k x (by omega) hx e.symm
      · simp only [decide_eq_true_eq]
        exact ⟨k, by omega, rfl⟩
  have h2 := key K (Nat.le_refl _)
  have h3 : cnt (fun z => @decide (∃ x, x < K ∧ f x = z) (Classical.propDecidable _)) K < cnt (fun _ => true) K := by
    refine cnt_lt (g := y) (fun _ _ _ => rfl) hy ?_ rfl
    simp only [decide_eq_false_iff_not]
    rintro ⟨x, hx, e⟩
    exact hno x hx e
  have h4 := cnt_le (fun _ => true) K
  omega
theorem mInv_ok {M : xMac} (hM : mOk M) {s y : Nat} (hs : s < mN M) (hf : mFair M s) (hy : y < mK M) : mInv M s y < mK M ∧ mWr M s (mInv M s y) = y := by
  obtain ⟨x, hx, e⟩ := fair_surj (fun x => mWr M s x) (fun x hx => (hM.2.2.2 s x hs hx).1) hf y hy
  rw [mInv_some hf hx e]
  exact ⟨hx, e⟩
theorem mw_lt {M : xMac} (hM : mOk M) {m x : Nat} (hm : mOkm M m) (hx : x < mK M) : mw M m x < mK M := by
  unfold mw
  split
  · exact (hM.2.2.2 _ _ hm.1 hx).1
  · exact (mInv_ok hM hm.1 (hm.2 (by omega)).fair hx).1
theorem mg_ok {M : xMac} (hM : mOk M) (hw : mWhole M) {m x g : Nat} (hm : mOkm M m) (hx : x < mK M) (hg : mg M m x = some g) : mOkm M g := by
  unfold mg at hg
  split at hg
  · cases hgo : mGo M (m / 2) x with
    | none => rw [hgo] at hg; cases hg
    | some q =>
      rw [hgo] at hg
      have hg : 2 * q = g := Option.some.inj hg
      subst hg
      refine ⟨?_, fun h => by omega⟩
      have := hw _ _ hm.1 hx q hgo
      omega
  · have hb := hm.2 (by omega)
    obtain ⟨h1, h2⟩ := mInv_ok hM hm.1 hb.fair hx
    cases hgo : mGo M (m / 2) (mInv M (m / 2) x) with
    | none => rw [hgo] at hg; cases hg
    | some q =>
      rw [hgo] at hg
      have hg : 2 * q + 1 = g := Option.some.inj hg
      subst hg
      have hq := hb.go h1 hgo
      refine ⟨?_, fun _ => ?_⟩
      · have := hq.lt; omega
      · rw [show (2 * q + 1) / 2 = q by omega]; exact hq
theorem c9_step {M : xMac} (h : mMach I M) (hwh : mWhole M) {m x : Nat} (hm : mOkm M m) (hx : x < mK M) : xCon G M_X9_step [.ref (G.1 77), .int (tok m), .int (nI x)] I J (xpv fun I' J' => I' 77 13 = nI (mw M m x) ∧ I' 77 14 = stk (mg M m x) ∧ mfx [] [13, 14] I I' ∧ J = J') := by
  obtain ⟨⟨hK2, hK4, hN8, hok⟩, hK, hN, hwg⟩ := id h
  have hm1 := hm.1
  refine x_ent (by decide) (Nat.le_of_ble_eq_true rfl) rfl ?_
  show xT _ _ _ 0 [_, _, _, _, _] _ _ _
  refine xr_iload1 dX9_step_0 rfl ?_
  refine xr_if_le 39 dX9_step_1 (by decide) (fun hp => ?_) (fun hp => ?_)
  rotate_left
  · have hp : 0 < tok m := Int32.not_le.mp hp
    rw [tok_pos (by omega)] at hp
    have et : tok m = nI (m / 2 + 1) := by rw [tok, if_pos hp]
    have hi : (4 * (tok m - 1) + nI x : Int32) = nI (4 * (m / 2) + x) := by rw [et, k_1, pk_sub (by omega), Nat.add_sub_cancel, k_4, pk_mul, nI_add]
    obtain ⟨g1, g2⟩ := hwg _ _ hm1 hx
    refine xr_aload0 dX9_step_4 rfl ?_
    refine xr_aload0 dX9_step_5 rfl ?_
    refine xr_getR dX9_step_6 fk_9_23 lay_77 rfl ?_
    refine xr_ic4 dX9_step_9 ?_
    refine xr_iload1 dX9_step_10 rfl ?_
    refine xr_ic1 dX9_step_11 ?_
    refine xr_isub dX9_step_12 ?_
    refine xr_imul dX9_step_13 ?_
    show xT _ _ _ 14 _ _ _ _
    refine xr_iload2 dX9_step_14 rfl ?_
    refine xr_iadd dX9_step_15 ?_
    refine xr_ialdv _ dX9_step_16 lay_81 hi (by omega) (by decide) g1 ?_
    refine xr_putI dX9_step_17 fp_9_147 lay_77 rfl ?_
    generalize hI2 : va_up I 77 (upd (I 77) 13 (nI (mWr M (m / 2) x))) = I2
    have f2 : mfx [] [13, 14] I I2 := by rw [← hI2]; exact mfx.rf.up7 _ (by decide)
    have g2' : I2 82 (4 * (m / 2) + x) = oI (mGo M (m / 2) x) := by rw [f2.1 82 (by decide) (by decide)]; exact g2
    refine xr_aload0 dX9_step_20 rfl ?_
    refine xr_aload0 dX9_step_21 rfl ?_
    refine xr_getR dX9_step_22 fk_9_26 lay_77 rfl ?_
    refine xr_ic4 dX9_step_25 ?_
    refine xr_iload1 dX9_step_26 rfl ?_
    refine xr_ic1 dX9_step_27 ?_
    refine xr_isub dX9_step_28 ?_
    refine xr_imul dX9_step_29 ?_
    show xT _ _ _ 30 _ _ _ _
    refine xr_iload2 dX9_step_30 rfl ?_
    refine xr_iadd dX9_step_31 ?_
    refine xr_ialdv _ dX9_step_32 lay_82 hi (by omega) (by decide) g2' ?_
    refine xr_ic1 dX9_step_33 ?_
    refine xr_iadd dX9_step_34 ?_
    refine xr_putI dX9_step_35 fp_9_150 lay_77 rfl ?_
    refine xr_vret dX9_step_38 rfl rfl ⟨?_, ?_, f2.up7 _ (by decide), rfl⟩
    · rw [up_same, upd_ne _ _ (by decide), ← hI2, up_same, upd_same, mw, if_pos hp]
    · rw [up_same, upd_same, mg, if_pos hp]
      cases hgo : mGo M (m / 2) x with
      | none => decide
      | some g =>
        show nI g + 1 = tok (2 * g)
        rw [tok_even, k_1, nI_add]
  · have hp : m % 2 = 1 := by
      rcases Nat.mod_two_eq_zero_or_one m with q | q
      · exact absurd ((tok_pos (by omega)).mpr q) (Int32.not_lt.mpr hp)
      · exact q
    have et : tok m = -nI (m / 2 + 1) := by rw [tok, if_neg (by omega)]
    have e2 : -tok m - 1 = nI (m / 2) := by rw [et, ← nI_1]; grind
    have hb := hm.2 hp
    obtain ⟨v1, v2⟩ := mInv_ok h.1 hm1 hb.fair hx
    refine xr_iload1 dX9_step_39 rfl ?_
    refine xr_ineg dX9_step_40 ?_
    refine xr_ic1 dX9_step_41 ?_
    refine xr_isub dX9_step_42 ?_
    refine xr_istore3 dX9_step_43 (Nat.le_of_ble_eq_true rfl) ?_
    show xT _ _ _ 44 [_, _, _, _, _] _ _ _
    refine xr_ic0 dX9_step_44 ?_
    refine xr_istore dX9_step_45 (Nat.le_of_ble_eq_true rfl) ?_
    show xT _ _ _ 47 [_, _, _, _, _] _ _ _
    simp only [e2]
    have L : ∀ y, y ≤ mK M → ∀ I1, mfx [] [13, 14] I I1 → (mInv M (m / 2) x < y → I1 77 13 = nI (mw M m x) ∧ I1 77 14 = stk (mg M m x)) → xT G M_X9_step (xMQ G (xpv fun I' J' => I' 77 13 = nI (mw M m x) ∧ I' 77 14 = stk (mg M m x) ∧ mfx [] [13, 14] I I' ∧ J = J')) 47 [some (.ref (G.1 77)), some (.int (tok m)), some (.int (nI x)), some (.int (nI (m / 2))), some (.int (nI y))] [] I1 J := by
      refine x_for (fun y hy IH I1 f1 hd => ?_)
      have hK1 : I1 77 3 = nI (mK M) := (f1.2 3 (by decide)).trans hK
      refine xr_iload dX9_step_47 rfl ?_
      refine xr_aload0 dX9_step_49 rfl ?_
      refine xr_getIv dX9_step_50 fk_9_19 lay_77 rfl hK1 ?_
      refine xr_icmp_ge 101 dX9_step_53 (by decide) (fun hc => ?_) (fun hc => ?_)
      · have : y = mK M := by have := nle hc; omega
        subst this
        refine xr_vret dX9_step_101 rfl rfl ⟨(hd v1).1, (hd v1).2, f1, rfl⟩
      · have hyK := nlt hc
        have IH := IH hyK
        obtain ⟨g1, g2⟩ := hwg _ _ hm1 hyK
        have g1' : I1 81 (4 * (m / 2) + y) = nI (mWr M (m / 2) y) := by rw [f1.1 81 (by decide) (by decide)]; exact g1
        have hwl := (hok _ _ hm1 hyK).1
        refine xr_aload0 dX9_step_56 rfl ?_
        refine xr_getR dX9_step_57 fk_9_23 lay_77 rfl ?_
        refine xr_ic4 dX9_step_60 ?_
        refine xr_iload3 dX9_step_61 rfl ?_
        refine xr_imul dX9_step_62 ?_
        refine xr_iload dX9_step_63 rfl ?_
        refine xr_iadd dX9_step_65 ?_
        refine xr_ialdv _ dX9_step_66 lay_81 (by (try simp only [k_0, k_1, k_2, k_3, k_4, k_5, k_8, k_16, k_34, k_40, k_200, k_201, k_256, k_512, nI_add, pk_mul]); first | done | rfl) (by omega) (by decide) g1' ?_
        show xT _ _ _ 67 _ _ _ _
        refine xr_iload2 dX9_step_67 rfl ?_
        refine xr_icmp_ne 95 dX9_step_68 (by decide) (fun he => ?_) (fun he => ?_)
        · have he : mWr M (m / 2) y ≠ x := fun q => he (by rw [q])
          refine xr_iinc dX9_step_95 rfl ii_1 (Nat.le_of_ble_eq_true rfl) ?_
          show xT _ _ _ 98 [_, _, _, _, _] _ _ _
          refine xr_goto 47 dX9_step_98 (by decide) ?_
          rw [k_1, nI_add]
          refine IH I1 f1 (fun q => hd ?_)
          have : mInv M (m / 2) x ≠ y := fun e => he (by rw [← e]; exact v2)
          omega
        · have he : mWr M (m / 2) y = x := (nI_eq (by omega) (by omega)).mp he
          have hinv : mInv M (m / 2) x = y := mInv_some hb.fair hyK he
          refine xr_aload0 dX9_step_71 rfl ?_
          refine xr_iload dX9_step_72 rfl ?_
          refine xr_putI dX9_step_74 fp_9_147 lay_77 rfl ?_
          generalize hI2 : va_up I1 77 (upd (I1 77) 13 (nI y)) = I2
          have f2 : mfx [] [13, 14] I I2 := by rw [← hI2]; exact f1.up7 _ (by decide)
          have g2' : I2 82 (4 * (m / 2) + y) = oI (mGo M (m / 2) y) := by rw [f2.1 82 (by decide) (by decide)]; exact g2
          refine xr_aload0 dX9_step_77 rfl ?_
          refine xr_aload0 dX9_step_78 rfl ?_
          refine xr_getR dX9_step_79 fk_9_26 lay_77 rfl ?_
          refine xr_ic4 dX9_step_82 ?_
          refine xr_iload3 dX9_step_83 rfl ?_
          refine xr_imul dX9_step_84 ?_
          refine xr_iload dX9_step_85 rfl ?_
          refine xr_iadd dX9_step_87 ?_
          show xT _ _ _ 88 _ _ _ _
          refine xr_ialdv _ dX9_step_88 lay_82 (by (try simp only [k_0, k_1, k_2, k_3, k_4, k_5, k_8, k_16, k_34, k_40, k_200, k_201, k_256, k_512, nI_add, pk_mul]); first | done | rfl) (by omega) (by decide) g2' ?_
          refine xr_ineg dX9_step_89 ?_
          refine xr_ic1 dX9_step_90 ?_
          refine xr_isub dX9_step_91 ?_
          refine xr_putI dX9_step_92 fp_9_150 lay_77 rfl ?_
          refine xr_iinc dX9_step_95 rfl ii_1 (Nat.le_of_ble_eq_true rfl) ?_
          show xT _ _ _ 98 [_, _, _, _, _] _ _ _
          refine xr_goto 47 dX9_step_98 (by decide) ?_
          rw [k_1, nI_add]
          refine IH _ (f2.up7 _ (by decide)) (fun _ => ⟨?_, ?_⟩)
          · rw [up_same, upd_ne _ _ (by decide), ← hI2, up_same, upd_same, mw, if_neg (by omega), hinv]
          · rw [up_same, upd_same, mg, if_neg (by omega), hinv]
            cases hgo : mGo M (m / 2) y with
            | none => decide
            | some g =>
              show -nI g - nI 1 = tok (2 * g + 1)
              rw [tok_odd, ← nI_1 g, ← k_1]
              grind
    exact L 0 (by omega) I mfx.rf (fun q => by omega)
/-- the part of a word: w at a letter, to another place -/
theorem c9_partAt {M : xMac} (h : mMach I M) (hwh : mWhole M) {w to x : Nat} {ws : List Nat} (hw : w < 12) (hto : to < 12) (hne : w ≠ to) (hx : x < mK M) (hW : mWd I w ws) (hok : wOk M ws) (hl : ws.length ≤ 33) : xCon G M_X9_partAt [.ref (G.1 77), .int (nI w), .int (nI x), .int (nI to)] I J (xpi fun v I' J' => v = nI (wout M ws x) ∧ mWd I' to (wpart M ws x) ∧ mwx [to] I I' ∧ mfx [83, 84] [13, 14] I I' ∧ J = J') := by
  have hN8 := h.1.2.2.1
  have inv : ∀ i, i ≤ ws.length → ((ws.take i).foldl (wpartF M) (x, [])).1 < mK M ∧ wOk M ((ws.take i).foldl (wpartF M) (x, [])).2 ∧ ((ws.take i).foldl (wpartF M) (x, [])).2.length ≤ i := by
    intro i
    induction i with
    | zero => intro _; exact ⟨hx, (fun m hm => by cases hm), by simp⟩
    | succ i IH =>
      intro hi
      obtain ⟨a1, a2, a3⟩ := IH (by omega)
      have hmo := hok _ (List.getElem_mem (show i < ws.length by omega))
      rw [List.take_succ_eq_append_getElem (by omega), List.foldl_append, List.foldl_cons, List.foldl_nil]
      generalize (ws.take i).foldl (wpartF M) (x, []) = stt at a1 a2 a3 ⊢
      obtain ⟨xc, wc⟩ := stt
      have a3 : wc.length ≤ i := a3
      refine ⟨mw_lt h.1 hmo a1, ?_, ?_⟩
      · show wOk M (wpushO wc (mg M ws[i] xc))
        cases hg : mg M ws[i] xc with
        | none => exact a2
        | some g => exact a2.push (mg_ok h.1 hwh hmo a1 hg)
      · show (wpushO wc (mg M ws[i] xc)).length ≤ i + 1
        cases hg : mg M ws[i] xc with
        | none => show wc.length ≤ _; omega
        | some g =>
          have := wpush_len wc g
          show (wpush _ g).length ≤ _
          omega
  have L : ∀ i, i ≤ ws.length → ∀ I1, mfx [83, 84] [13, 14] I I1 → mwx [to] I I1 → mWd I1 to ((ws.take i).foldl (wpartF M) (x, [])).2 → xT G M_X9_partAt (xMQ G (xpi fun v I' J' => v = nI (wout M ws x) ∧ mWd I' to (wpart M ws x) ∧ mwx [to] I I' ∧ mfx [83, 84] [13, 14] I I' ∧ J = J')) 13 [some (.ref (G.1 77)), some (.int (nI w)), some (.int (nI x)), some (.int (nI to)), some (.int (nI ((ws.take i).foldl (wpartF M) (x, [])).1)), some (.int (nI i))] [] I1 J := by
    refine x_for (fun i hi IH I1 f1 x1 d1 => ?_)
    obtain ⟨b1, b2⟩ := x1.wd (w := w) hw (by simp; exact hne) (by omega) hW
    obtain ⟨a1, a2, a3⟩ := inv i hi
    refine xr_iload dX9_partAt_13 rfl ?_
    refine xr_aload0 dX9_partAt_15 rfl ?_
    refine xr_getR dX9_partAt_16 fk_9_32 lay_77 rfl ?_
    refine xr_iload1 dX9_partAt_19 rfl ?_
    refine xr_ialdv _ dX9_partAt_20 lay_84 (by (try simp only [k_0, k_1, k_2, k_3, k_4, k_5, k_8, k_16, k_34, k_40, k_200, k_201, k_256, k_512, nI_add, pk_mul]); first | done | rfl) (by omega) (by decide) b1 ?_
    refine xr_icmp_ge 70 dX9_partAt_21 (by decide) (fun hc => ?_) (fun hc => ?_)
    · have : i = ws.length := by have := nle hc; omega
      subst this
      rw [List.take_length] at d1 ⊢
      refine xr_iload dX9_partAt_70 rfl ?_
      refine xr_iret dX9_partAt_72 rfl rfl ⟨rfl, d1, x1, f1, rfl⟩
    · have hil := nlt hc
      have IH := IH hil
      have hmo := hok _ (List.getElem_mem hil)
      rw [List.take_succ_eq_append_getElem hil, List.foldl_append, List.foldl_cons, List.foldl_nil] at IH
      generalize hst : (ws.take i).foldl (wpartF M) (x, []) = stt at a1 a2 a3 IH d1 ⊢
      obtain ⟨xc, wc⟩ := stt
      have a3 : wc.length ≤ i := a3
      refine xr_aload0 dX9_partAt_24 rfl ?_
      refine xr_aload0 dX9_partAt_25 rfl ?_
      refine xr_getR dX9_partAt_26 fk_9_29 lay_77 rfl ?_
      refine xr_bip bi_34 dX9_partAt_29 ?_
      refine xr_iload1 dX9_partAt_31 rfl ?_
      refine xr_imul dX9_partAt_32 ?_
      refine xr_iload dX9_partAt_33 rfl ?_
      refine xr_iadd dX9_partAt_35 ?_
      show xT _ _ _ 36 _ _ _ _
      refine xr_ialdv _ dX9_partAt_36 lay_83 (by (try simp only [k_0, k_1, k_2, k_3, k_4, k_5, k_8, k_16, k_34, k_40, k_200, k_201, k_256, k_512, nI_add, pk_mul]); first | done | rfl) (by omega) (by decide) (b2 i hil) ?_
      refine xr_iload dX9_partAt_37 rfl ?_
      refine xr_cVv [_, _] dX9_partAt_39 (xcv_of cf_X9_step ml_9_153 (by decide)) rfl lay_77 rfl rfl rfl (Nat.le_of_ble_eq_true rfl) (c9_step (f1.mach h (by decide) (by decide)) hwh hmo a1) (fun I2 J2 hc2 => ?_)
      obtain ⟨e1, e2, f2, rfl⟩ := hc2
      have f12 := f1.tr (f2.mono (by simp) (by simp))
      have x2 : mwx [to] I1 I2 := mwx.of (f2.1 83 (by decide) (by decide)) (f2.1 84 (by decide) (by decide))
      have d2 : mWd I2 to wc := ⟨by rw [f2.1 84 (by decide) (by decide)]; exact d1.1, by rw [f2.1 83 (by decide) (by decide)]; exact d1.2⟩
      refine xr_aload0 dX9_partAt_42 rfl ?_
      refine xr_getIv dX9_partAt_43 fk_9_147 lay_77 rfl e1 ?_
      refine xr_istore dX9_partAt_46 (Nat.le_of_ble_eq_true rfl) ?_
      show xT _ _ _ 48 [_, _, _, _, _, _] _ _ _
      refine xr_aload0 dX9_partAt_48 rfl ?_
      refine xr_getIv dX9_partAt_49 fk_9_150 lay_77 rfl e2 ?_
      have hml : ws[i] < 16 := by have := hmo.1; omega
      unfold wpartF at IH
      cases hg : mg M ws[i] xc with
      | none =>
        refine xr_if_eq 64 dX9_partAt_52 (by decide) (fun hz => ?_) (fun hz => ?_)
        rotate_left
        · exact absurd rfl hz
        refine xr_iinc dX9_partAt_64 rfl ii_1 (Nat.le_of_ble_eq_true rfl) ?_
        show xT _ _ _ 67 [_, _, _, _, _, _] _ _ _
        refine xr_goto 13 dX9_partAt_67 (by decide) ?_
        rw [k_1, nI_add]
        rw [hg] at IH
        exact IH I2 f12 (x1.tr x2) d2
      | some g =>
        have hgo := mg_ok h.1 hwh hmo a1 hg
        rw [hg] at e2
        have hg16 : g < 16 := by have := hgo.1; omega
        refine xr_if_eq 64 dX9_partAt_52 (by decide) (fun hz => ?_) (fun hz => ?_)
        · exact absurd hz (tok_ne0 (by omega))
        refine xr_aload0 dX9_partAt_55 rfl ?_
        refine xr_iload3 dX9_partAt_56 rfl ?_
        refine xr_aload0 dX9_partAt_57 rfl ?_
        refine xr_getIv dX9_partAt_58 fk_9_150 lay_77 rfl e2 ?_
        refine xr_cVv [_, _] dX9_partAt_61 (xcv_of cf_X9_add ml_9_144 (by decide)) rfl lay_77 rfl rfl rfl (Nat.le_of_ble_eq_true rfl) (c9_add hto d2 (by omega) hg16 (fun q hq => a2.lt hN8 hq)) (fun I3 J3 hc3 => ?_)
        obtain ⟨d3, x3, f3, rfl⟩ := hc3
        refine xr_iinc dX9_partAt_64 rfl ii_1 (Nat.le_of_ble_eq_true rfl) ?_
        show xT _ _ _ 67 [_, _, _, _, _, _] _ _ _
        refine xr_goto 13 dX9_partAt_67 (by decide) ?_
        rw [k_1, nI_add]
        rw [hg] at IH
        exact IH I3 (f12.tr (f3.mono (by simp) (by simp))) ((x1.tr x2).tr x3) d3
  refine x_ent (by decide) (Nat.le_of_ble_eq_true rfl) rfl ?_
  show xT _ _ _ 0 [_, _, _, _, _, _] _ _ _
  refine xr_iload2 dX9_partAt_0 rfl ?_
  refine xr_istore dX9_partAt_1 (Nat.le_of_ble_eq_true rfl) ?_
  show xT _ _ _ 3 [_, _, _, _, _, _] _ _ _
  refine xr_aload0 dX9_partAt_3 rfl ?_
  refine xr_getR dX9_partAt_4 fk_9_32 lay_77 rfl ?_
  refine xr_iload3 dX9_partAt_7 rfl ?_
  refine xr_ic0 dX9_partAt_8 ?_
  refine xr_iast _ dX9_partAt_9 lay_84 rfl hto (by decide) ?_
  refine xr_ic0 dX9_partAt_10 ?_
  show xT _ _ _ 11 _ _ _ _
  refine xr_istore dX9_partAt_11 (Nat.le_of_ble_eq_true rfl) ?_
  show xT _ _ _ 13 [_, _, _, _, _, _] _ _ _
  rw [k_0]
  refine L 0 (by omega) _ (mfx.rf.up _ (by decide) (by decide)) (fun v hv hvw => ?_) ⟨by rw [up_same, upd_same]; rfl, fun i hi => absurd hi (Nat.not_lt_zero _)⟩
  have hvw' : v ≠ to := fun q => hvw (by rw [q]; exact List.mem_singleton.mpr rfl)
  rw [up_same, upd_ne _ _ hvw', va_up_ne _ _ (by decide)]
  exact ⟨rfl, fun _ _ => rfl⟩
end M09
