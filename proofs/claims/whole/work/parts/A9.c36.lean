section C36
variable {G : xG} {I : xI} {J : xJ}
noncomputable def wPre (M : xMac) : Nat → List (List Nat)
  | 0 => []
  | n + 1 => wW M n
theorem wPre_eq (M : xMac) : ∀ n, wW M n = wPre M n ++ wlay M n
  | 0 => rfl
  | n + 1 => rfl
theorem c6_enterWithin {M : xMac} (hm : cMc I M) {m : Nat} (hm6 : m < 6) {ks : List kK} (hk : kT I J 58 200 512 ks) : xCon G M_X6_enterWithin [.ref (G.1 56), .ref (G.1 21), .int (nI m)] I J (xpi fun v I' J' => v = b2 (decide ((wW M m).length ≤ 200)) ∧ ((wW M m).length ≤ 200 → pWd I' J' 57 (wW M m) ∧ I' 57 9 = nI 0 ∧ I' 57 10 = nI 0) ∧ (∃ ks, kT I' J' 58 200 512 ks) ∧ cfx [57, 58, 59, 60, 61, 72] I J I' J') := by
  have hM := hm.1.1
  have L : ∀ f n, n + f = m → ∀ I1 J1 (z5 z6 : Option Value), cfx [57, 58, 59, 60, 61, 72] I J I1 J1 → pWd I1 J1 57 (wW M n) → I1 57 9 = nI 0 → I1 57 10 = nI 0 → xT G M_X6_enterWithin (xMQ G (xpi fun v I' J' => v = b2 (decide ((wW M m).length ≤ 200)) ∧ ((wW M m).length ≤ 200 → pWd I' J' 57 (wW M m) ∧ I' 57 9 = nI 0 ∧ I' 57 10 = nI 0) ∧ (∃ ks, kT I' J' 58 200 512 ks) ∧ cfx [57, 58, 59, 60, 61, 72] I J I' J')) 9 [some (.ref (G.1 56)), some (.ref (G.1 21)), some (.int (nI m)), some (.int (nI (wPre M n).length)), some (.int (nI (n + 1))), z5, z6] [] I1 J1 := by
    intro f
    induction f with
    | zero =>
      intro n hn I1 J1 z5 z6 f1 w1 k9 k10
      have : n = m := by omega
      subst this
      have hl := w1.len.1
      refine xr_iload dX6_enterWithin_9 rfl ?_
      refine xr_iload2 dX6_enterWithin_11 rfl ?_
      refine xr_icmp_gt 64 dX6_enterWithin_12 (by decide) (fun hgt => ?_) (fun hgt => ?_)
      rotate_left
      · have := nnlt hgt; omega
      refine xr_ic1 dX6_enterWithin_64 ?_
      refine xr_zret dX6_enterWithin_65 rfl rfl (by simp) ⟨b2_P hl, fun _ => ⟨w1, k9, k10⟩, ⟨_, w1.1⟩, f1⟩
    | succ f IH =>
      intro n hn I1 J1 z5 z6 f1 w1 k9 k10
      have IH := IH (n + 1) (by omega)
      have hl := w1.len.1
      have hcnt := w1.len.2
      have hpre := wPre_eq M n
      have hpl : (wPre M n).length + (wlay M n).length = (wW M n).length := by rw [hpre, List.length_append]
      refine xr_iload dX6_enterWithin_9 rfl ?_
      refine xr_iload2 dX6_enterWithin_11 rfl ?_
      refine xr_icmp_gt 64 dX6_enterWithin_12 (by decide) (fun hgt => ?_) (fun hgt => ?_)
      · have := nltl hgt; omega
      refine xr_aload0 dX6_enterWithin_15 rfl ?_
      refine xr_getR dX6_enterWithin_16 fk_6_12 lay_56 rfl ?_
      refine xr_getR dX6_enterWithin_19 fk_6_71 lay_57 rfl ?_
      refine xr_getIv dX6_enterWithin_22 fk_6_75 lay_58 rfl hcnt ?_
      refine xr_istore dX6_enterWithin_25 (Nat.le_of_ble_eq_true rfl) ?_
      show xT _ _ _ 27 [_, _, _, _, _, _, _] _ _ _
      refine xr_iload3 dX6_enterWithin_27 rfl ?_
      refine xr_istore dX6_enterWithin_28 (Nat.le_of_ble_eq_true rfl) ?_
      show xT _ _ _ 30 [_, _, _, _, _, _, _] _ _ _
      have Li : ∀ j, j ≤ (wlay M n).length → ∀ I2 J2, cfx [57, 58, 59, 60, 61, 72] I J I2 J2 → pWd I2 J2 57 (wW M n ++ ((wlay M n).take j).flatMap (wx M)) → I2 57 9 = nI 0 → I2 57 10 = nI 0 → xT G M_X6_enterWithin (xMQ G (xpi fun v I' J' => v = b2 (decide ((wW M m).length ≤ 200)) ∧ ((wW M m).length ≤ 200 → pWd I' J' 57 (wW M m) ∧ I' 57 9 = nI 0 ∧ I' 57 10 = nI 0) ∧ (∃ ks, kT I' J' 58 200 512 ks) ∧ cfx [57, 58, 59, 60, 61, 72] I J I' J')) 30 [some (.ref (G.1 56)), some (.ref (G.1 21)), some (.int (nI m)), some (.int (nI (wPre M n).length)), some (.int (nI (n + 1))), some (.int (nI (wW M n).length)), some (.int (nI ((wPre M n).length + j)))] [] I2 J2 := by
        refine x_for (fun j hj IHj I2 J2 f2 w2 k9 k10 => ?_)
        refine xr_iload dX6_enterWithin_30 rfl ?_
        refine xr_iload dX6_enterWithin_32 rfl ?_
        refine xr_icmp_ge 55 dX6_enterWithin_34 (by decide) (fun hge => ?_) (fun hge => ?_)
        · have : j = (wlay M n).length := by have := nle hge; omega
          subst this
          rw [List.take_length] at w2
          refine xr_iload dX6_enterWithin_55 rfl ?_
          refine xr_istore3 dX6_enterWithin_57 (Nat.le_of_ble_eq_true rfl) ?_
          show xT _ _ _ 58 [_, _, _, _, _, _, _] _ _ _
          refine xr_iinc dX6_enterWithin_58 rfl ii_1 (Nat.le_of_ble_eq_true rfl) ?_
          show xT _ _ _ 61 [_, _, _, _, _, _, _] _ _ _
          refine xr_goto 9 dX6_enterWithin_61 (by decide) ?_
          rw [k_1, nI_add]
          exact IH I2 J2 _ _ f2 w2 k9 k10
        have hjl : j < (wlay M n).length := by have := nlt hge; omega
        have IHj := IHj hjl
        have hl2 := w2.len.1
        have hil : (wPre M n).length + j < (wW M n ++ ((wlay M n).take j).flatMap (wx M)).length := by rw [List.length_append]; omega
        have hie : (wW M n ++ ((wlay M n).take j).flatMap (wx M))[(wPre M n).length + j] = (wlay M n)[j] := by
          rw [List.getElem_append_left (by omega)]
          have : (wW M n)[(wPre M n).length + j]? = some (wlay M n)[j] := by
            rw [hpre, List.getElem?_append_right (by omega), Nat.add_sub_cancel_left, List.getElem?_eq_getElem hjl]
          exact (List.getElem?_eq_some_iff.mp this).2
        have hmem := List.getElem_mem hjl
        obtain ⟨g1, g2⟩ := wlay_good hmem
        have glen := wlay_len hmem
        have hgood : wGood M (wlay M n)[j] := ⟨by omega, g2, g1⟩
        have hnd := wlay_nodup M (n + 1)
        have hext : wlay M (n + 1) = ((wlay M n).take j).flatMap (wx M) ++ (wx M (wlay M n)[j] ++ ((wlay M n).drop (j + 1)).flatMap (wx M)) := by
          show (wlay M n).flatMap (wx M) = _
          conv => lhs; rw [← List.take_append_drop j (wlay M n), List.drop_eq_getElem_cons hjl, List.flatMap_append, List.flatMap_cons]
        have hnew : ∀ x ∈ wx M (wlay M n)[j], x ∉ wW M n ++ ((wlay M n).take j).flatMap (wx M) := fun x hx q => by
          rcases List.mem_append.mp q with q | q
          · have h1 := (wW_mem.mp q).2.2
            obtain ⟨t, -, -, rfl⟩ := wx_mem.mp hx
            simp at h1
            omega
          · rw [hext, List.nodup_append] at hnd
            exact hnd.2.2 x q x (List.mem_append_left _ hx) rfl
        have hbig : (wW M n).length + ((((wlay M n).take j).flatMap (wx M)).length + (wx M (wlay M n)[j]).length) ≤ (wW M m).length := by
          obtain ⟨e, he⟩ := wW_le (M := M) (n := n + 1) (m := m) (by omega)
          rw [he, List.length_append]
          have : (wW M (n + 1)).length = (wW M n).length + (wlay M (n + 1)).length := by
            show (wW M n ++ wlay M (n + 1)).length = _
            rw [List.length_append]
          rw [this, hext, List.length_append, List.length_append]
          omega
        have hextd := c6_extend (G := G) (f2.mc hm (by decide)) w2 hil (by rw [hie]; exact hgood) (by rw [hie]; omega) (by rw [hie]; exact hnew)
        rw [hie] at hextd
        refine xr_aload0 dX6_enterWithin_37 rfl ?_
        refine xr_aload1 dX6_enterWithin_38 rfl ?_
        refine xr_iload dX6_enterWithin_39 rfl ?_
        refine xr_cVi [_, _] dX6_enterWithin_41 (xcv_of cf_X6_extend ml_6_80 (by decide)) rfl lay_56 rfl rfl rfl (Nat.le_of_ble_eq_true rfl) (hextd) (fun v I3 J3 hc3 => ?_)
        obtain ⟨hv, f3⟩ := hc3
        rcases hv with ⟨hfit, rfl, w3⟩ | ⟨hno, rfl, hs2, w3⟩
        · skip
          refine xr_if_ne 49 dX6_enterWithin_44 (by decide) (fun hz => ?_) (fun hz => ?_)
          rotate_left
          · exact absurd hz (by decide)
          refine xr_iinc dX6_enterWithin_49 rfl ii_1 (Nat.le_of_ble_eq_true rfl) ?_
          show xT _ _ _ 52 [_, _, _, _, _, _, _] _ _ _
          refine xr_goto 30 dX6_enterWithin_52 (by decide) ?_
          rw [k_1, nI_add]
          refine IHj I3 J3 (f2.tr (f3.mono (by decide))) ?_ (by rw [(f3 57 (by decide)).1]; exact k9) (by rw [(f3 57 (by decide)).1]; exact k10)
          rw [List.take_succ_eq_append_getElem hjl, List.flatMap_append, ← List.append_assoc, List.flatMap_cons, List.flatMap_nil, List.append_nil]
          exact w3
        · rw [List.length_append] at hno
          refine xr_if_ne 49 dX6_enterWithin_44 (by decide) (fun hz => ?_) (fun hz => ?_)
          · exact absurd rfl hz
          refine xr_ic0 dX6_enterWithin_47 ?_
          refine xr_zret dX6_enterWithin_48 rfl rfl (by simp) ⟨b2_N (by omega), fun q => by omega, ⟨_, w3.1⟩, f2.tr (f3.mono (by decide))⟩
      exact Li 0 (Nat.zero_le _) I1 J1 f1 (by simpa using w1) k9 k10
  refine x_ent (by decide) (Nat.le_of_ble_eq_true rfl) rfl ?_
  show xT _ _ _ 0 [_, _, _, _, _, _, _] _ _ _
  refine xr_aload0 dX6_enterWithin_0 rfl ?_
  refine xr_cVv [] dX6_enterWithin_1 (xcv_of cf_X6_beginWithEmpty ml_6_68 (by decide)) rfl lay_56 rfl rfl rfl (Nat.le_of_ble_eq_true rfl) (c6_beginWithEmpty hk) (fun I1 J1 hc => ?_)
  obtain ⟨w1, k9, k10, f1⟩ := hc
  refine xr_ic0 dX6_enterWithin_4 ?_
  refine xr_istore3 dX6_enterWithin_5 (Nat.le_of_ble_eq_true rfl) ?_
  show xT _ _ _ 6 [_, _, _, _, _, _, _] _ _ _
  refine xr_ic1 dX6_enterWithin_6 ?_
  refine xr_istore dX6_enterWithin_7 (Nat.le_of_ble_eq_true rfl) ?_
  show xT _ _ _ 9 [_, _, _, _, _, _, _] _ _ _
  exact L m 0 (Nat.zero_add _) I1 J1 _ _ f1 w1 k9 k10
-- what the class keeps of its last question
def cWi (I : xI) (J : xJ) (M : xMac) (m : Nat) : Prop := mWhole M ∧ I 56 9 = b2 (decide ((wW M m).length ≤ 200)) ∧ ((wW M m).length ≤ 200 → pWd I J 57 (wW M m) ∧ pKd I M 57 (wW M m))
def cFa (I : xI) (J : xJ) (M : xMac) (d : Nat) : Prop := mWhole M ∧ I 56 9 = b2 (fallOf M d).isSome ∧ ∀ F, fallOf M d = some F → F.length ≤ 20 ∧ I 56 6 = nI F.length ∧ ∃ hs, pWd I J 57 hs ∧ (∀ a ∈ hs, wGood M a) ∧ ∀ k (hk : k < F.length), ∃ j, I 74 k = nI j ∧ hs[j]? = some F[k]
def cSw (I : xI) (J : xJ) (M : xMac) : Prop := pQ I J 57 ∧ (I 56 8 = 0 ∨ (∃ m, m < 6 ∧ I 56 8 = nI (100 + m) ∧ cWi I J M m) ∨ ∃ d, (d = 1 ∨ d = 2) ∧ I 56 8 = nI (200 + d) ∧ cFa I J M d)
theorem wW_200 {M : xMac} (hM : mOk M) (hwh : mWhole M) {m : Nat} {hs : List (List Nat)} {w : List Nat} (hl : (wW M m).length ≤ 200) (he : hExt M (wW M m) (hs ++ [w])) (hn : hs.Nodup) (hw : w ∉ hs) (h200 : hs.length = 200) : False := by
  have hnd : (hs ++ [w]).Nodup := by
    rw [List.nodup_append]
    refine ⟨hn, by simp, fun a ha b hb e => hw ?_⟩
    rw [← List.mem_singleton.mp hb, ← e]; exact ha
  have := congrArg List.length (wW_ext hM hwh he hnd)
  rw [List.length_append, List.length_singleton] at this
  omega
theorem c6_gatherWithin {M : xMac} {S : xSt} (hS : S.2.1 = M) (hm : cMc I M) (hsw : cSw I J M) (m : Int32) : xCon G M_X6_gatherWithin [.ref (G.1 56), .ref (G.1 21), .int m] I J (xpi fun v I' J' => v = sp_short S m ∧ cSw I' J' M ∧ (sp_short S m = 0 → mWhole M ∧ w2n m < 6 ∧ (wW M (w2n m)).length ≤ 200 ∧ pWd I' J' 57 (wW M (w2n m)) ∧ pKd I' M 57 (wW M (w2n m))) ∧ cfx [56, 57, 58, 59, 60, 61, 62, 63, 64, 65, 66, 67, 68, 69, 70, 71, 72] I J I' J') := by
  have hM := hm.1.1
  subst hS
  have K9 : sp_short S m = -1 → xT G M_X6_gatherWithin (xMQ G (xpi fun v I' J' => v = sp_short S m ∧ cSw I' J' S.2.1 ∧ (sp_short S m = 0 → mWhole S.2.1 ∧ w2n m < 6 ∧ (wW S.2.1 (w2n m)).length ≤ 200 ∧ pWd I' J' 57 (wW S.2.1 (w2n m)) ∧ pKd I' S.2.1 57 (wW S.2.1 (w2n m))) ∧ cfx [56, 57, 58, 59, 60, 61, 62, 63, 64, 65, 66, 67, 68, 69, 70, 71, 72] I J I' J')) 9 [some (.ref (G.1 56)), some (.ref (G.1 21)), some (.int m)] [] I J := by
    intro e
    rw [e]
    refine xr_icm1 dX6_gatherWithin_9 ?_
    refine xr_iret dX6_gatherWithin_10 rfl rfl ⟨rfl, hsw, fun q => absurd q (by decide), cfx.rf⟩
  refine x_ent (by decide) (Nat.le_of_ble_eq_true rfl) rfl ?_
  show xT _ _ _ 0 [_, _, _] _ _ _
  refine xr_iload2 dX6_gatherWithin_0 rfl ?_
  refine xr_if_lt 9 dX6_gatherWithin_1 (by decide) (fun h0 => ?_) (fun h0 => ?_)
  · rw [lt_toInt, ti_0] at h0
    exact K9 (by simp [sp_short, ix_no (n := 6) (Or.inl h0)])
  rw [lt_toInt, ti_0] at h0
  refine xr_iload2 dX6_gatherWithin_4 rfl ?_
  refine xr_ic5 dX6_gatherWithin_5 ?_
  refine xr_icmp_le 11 dX6_gatherWithin_6 (by decide) (fun h1 => ?_) (fun h1 => ?_)
  rotate_left
  · rw [le_toInt, show (5 : Int32).toInt = 5 by decide] at h1
    exact K9 (by simp [sp_short, ix_no (x := m) (n := 6) (Or.inr (by omega))])
  rw [le_toInt, show (5 : Int32).toInt = 5 by decide] at h1
  have hix := ix_in (n := 6) h0 (by omega)
  obtain ⟨hm6, hmn⟩ := ix_some hix
  generalize hmm : m.toInt.toNat = m' at hix hm6 hmn
  have hw2 : w2n m = m' := hmm
  subst hmn
  refine xr_aload1 dX6_gatherWithin_11 rfl ?_
  refine xr_getIv dX6_gatherWithin_12 fk_6_52 lay_21 rfl hm.2.2.1 ?_
  refine xr_if_ne 21 dX6_gatherWithin_15 (by decide) (fun hwh => ?_) (fun hwh => ?_)
  rotate_left
  · have hwh := b2_0.mp hwh
    have e : sp_short S (nI m') = -5 := by simp [sp_short, hix, hwh]
    rw [e]
    refine xr_bip bi_m5 dX6_gatherWithin_18 ?_
    refine xr_iret dX6_gatherWithin_20 rfl rfl ⟨rfl, hsw, fun q => absurd q (by decide), cfx.rf⟩
  have hwh : mW S.2.1 = true := by
    cases hq : mW S.2.1 with
    | true => rfl
    | false => rw [hq] at hwh; exact absurd rfl hwh
  have hwhole := mW_iff.mp hwh
  have e : sp_short S (nI m') = if 200 < (wW S.2.1 m').length then -7 else 0 := by simp only [sp_short, hix]; rw [hwh]; rfl
  have K75 : ∀ I1 J1, pQ I1 J1 57 → I1 56 8 = nI (100 + m') → cWi I1 J1 S.2.1 m' → cfx [56, 57, 58, 59, 60, 61, 62, 63, 64, 65, 66, 67, 68, 69, 70, 71, 72] I J I1 J1 → xT G M_X6_gatherWithin (xMQ G (xpi fun v I' J' => v = sp_short S (nI m') ∧ cSw I' J' S.2.1 ∧ (sp_short S (nI m') = 0 → mWhole S.2.1 ∧ w2n (nI m') < 6 ∧ (wW S.2.1 (w2n (nI m'))).length ≤ 200 ∧ pWd I' J' 57 (wW S.2.1 (w2n (nI m'))) ∧ pKd I' S.2.1 57 (wW S.2.1 (w2n (nI m')))) ∧ cfx [56, 57, 58, 59, 60, 61, 62, 63, 64, 65, 66, 67, 68, 69, 70, 71, 72] I J I' J')) 75 [some (.ref (G.1 56)), some (.ref (G.1 21)), some (.int (nI m'))] [] I1 J1 := by
    intro I1 J1 q1 a1 c1 f1
    have hcs : cSw I1 J1 S.2.1 := ⟨q1, Or.inr (Or.inl ⟨m', hm6, a1, c1⟩)⟩
    refine xr_aload0 dX6_gatherWithin_75 rfl ?_
    refine xr_getIv dX6_gatherWithin_76 fk_6_48 lay_56 rfl c1.2.1 ?_
    refine xr_if_eq 86 dX6_gatherWithin_79 (by decide) (fun hz => ?_) (fun hz => ?_)
    · have hz : ¬ (wW S.2.1 m').length ≤ 200 := b2d hz
      rw [if_pos (by omega)] at e
      rw [e]
      refine xr_bip bi_m7 dX6_gatherWithin_86 ?_
      refine xr_iret dX6_gatherWithin_88 rfl rfl ⟨rfl, hcs, fun q => absurd q (by decide), f1⟩
    have hz : (wW S.2.1 m').length ≤ 200 := b2d' hz
    rw [if_neg (by omega)] at e
    rw [e]
    refine xr_ic0 dX6_gatherWithin_82 ?_
    refine xr_goto 88 dX6_gatherWithin_83 (by decide) ?_
    refine xr_iret dX6_gatherWithin_88 rfl rfl ⟨rfl, hcs, fun _ => ⟨hwhole, by rw [hw2]; exact hm6, by rw [hw2]; exact hz, by rw [hw2]; exact (c1.2.2 hz).1, by rw [hw2]; exact (c1.2.2 hz).2⟩, f1⟩
  refine xr_aload0 dX6_gatherWithin_21 rfl ?_
  refine xr_getI dX6_gatherWithin_22 fk_6_45 lay_56 rfl ?_
  refine xr_bip bi_100 dX6_gatherWithin_25 ?_
  refine xr_iload2 dX6_gatherWithin_27 rfl ?_
  refine xr_iadd dX6_gatherWithin_28 ?_
  rw [k_100, nI_add]
  refine xr_icmp_eq 75 dX6_gatherWithin_29 (by decide) (fun hask => ?_) (fun hask => ?_)
  · rcases hsw.2 with h | ⟨m2, hm2, h, hc⟩ | ⟨d, hd, h, hc⟩
    · rw [h] at hask
      have := (nI_eq (a := 0) (by decide) (by omega)).mp hask
      omega
    · rw [h] at hask
      have : 100 + m2 = 100 + m' := (nI_eq (by omega) (by omega)).mp hask
      have : m2 = m' := by omega
      subst this
      exact K75 I J hsw.1 h hc cfx.rf
    · rw [h] at hask
      have := (nI_eq (by omega) (by omega)).mp hask
      omega
  obtain ⟨⟨ks1, hk1⟩, ks2, hk2⟩ := hsw.1
  refine xr_aload0 dX6_gatherWithin_32 rfl ?_
  refine xr_bip bi_100 dX6_gatherWithin_33 ?_
  refine xr_iload2 dX6_gatherWithin_35 rfl ?_
  refine xr_iadd dX6_gatherWithin_36 ?_
  rw [k_100, nI_add]
  refine xr_putI dX6_gatherWithin_37 fp_6_45 lay_56 rfl ?_
  generalize hI1 : va_up I 56 (upd (I 56) 8 (nI (100 + m'))) = I1
  have eo1 : ∀ a, a ≠ 56 → I1 a = I a := fun a ha => by rw [← hI1, va_up_ne _ _ ha]
  have f01 : cfx [56, 57, 58, 59, 60, 61, 62, 63, 64, 65, 66, 67, 68, 69, 70, 71, 72] I J I1 J := by rw [← hI1]; exact cfx.rf.up _ (by simp)
  have hm1 := f01.mc hm (by decide)
  have a1 : I1 56 8 = nI (100 + m') := by rw [← hI1, up_same, upd_same]
  refine xr_aload0 dX6_gatherWithin_40 rfl ?_
  refine xr_aload0 dX6_gatherWithin_41 rfl ?_
  refine xr_aload1 dX6_gatherWithin_42 rfl ?_
  refine xr_iload2 dX6_gatherWithin_43 rfl ?_
  refine xr_cVi [_, _] dX6_gatherWithin_44 (xcv_of cf_X6_enterWithin ml_6_57 (by decide)) rfl lay_56 rfl rfl rfl (Nat.le_of_ble_eq_true rfl) (c6_enterWithin hm1 hm6 (hk1.cg (fun a h1 h2 => ⟨eo1 a (by omega), rfl⟩) : kT I1 J 58 200 512 ks1)) (fun v I2 J2 hc => ?_)
  obtain ⟨rfl, w2, ⟨ks3, hk3⟩, f2⟩ := hc
  have q2 : kT I2 J2 62 200 512 ks2 := hk2.cg (fun a h1 h2 => ⟨by rw [(f2 a (by simp only [List.mem_cons, List.not_mem_nil, or_false]; omega)).1, eo1 a (by omega)], by rw [(f2 a (by simp only [List.mem_cons, List.not_mem_nil, or_false]; omega)).2]⟩)
  refine xr_putZ dX6_gatherWithin_47 fp_6_48 lay_56 rfl (b2_01 _) ?_
  generalize hI3 : va_up I2 56 (upd (I2 56) 9 (b2 (decide ((wW S.2.1 m').length ≤ 200)))) = I3
  have eo3 : ∀ a, a ≠ 56 → I3 a = I2 a := fun a ha => by rw [← hI3, va_up_ne _ _ ha]
  have f03 : cfx [56, 57, 58, 59, 60, 61, 62, 63, 64, 65, 66, 67, 68, 69, 70, 71, 72] I J I3 J2 := by rw [← hI3]; exact (f01.tr (f2.mono (by decide))).up _ (by simp)
  have a3 : I3 56 8 = nI (100 + m') := by rw [← hI3, up_same, upd_ne _ _ (by decide), (f2 56 (by decide)).1]; exact a1
  have z3 : I3 56 9 = b2 (decide ((wW S.2.1 m').length ≤ 200)) := by rw [← hI3, up_same, upd_same]
  refine xr_aload0 dX6_gatherWithin_50 rfl ?_
  refine xr_getIv dX6_gatherWithin_51 fk_6_48 lay_56 rfl z3 ?_
  refine xr_if_eq 75 dX6_gatherWithin_54 (by decide) (fun hz => ?_) (fun hz => ?_)
  · have hz : ¬ (wW S.2.1 m').length ≤ 200 := b2d hz
    exact K75 I3 J2 ⟨⟨ks3, hk3.cg (fun a h1 h2 => ⟨eo3 a (by omega), rfl⟩)⟩, ks2, q2.cg (fun a h1 h2 => ⟨eo3 a (by omega), rfl⟩)⟩ a3 ⟨hwhole, z3, fun q => absurd q hz⟩ f03
  have hz : (wW S.2.1 m').length ≤ 200 := b2d' hz
  obtain ⟨w2, k9, k10⟩ := w2 hz
  have w3 : pWd I3 J2 57 (wW S.2.1 m') := w2.cg (fun a h1 h2 => ⟨eo3 a (by omega), rfl⟩)
  have hgood := wW_good (M := S.2.1) (m := m') (by omega)
  have m3 := f03.mc hm (by decide)
  refine xr_aload0 dX6_gatherWithin_57 rfl ?_
  refine xr_getR dX6_gatherWithin_58 fk_6_12 lay_56 rfl ?_
  refine xr_aload1 dX6_gatherWithin_61 rfl ?_
  refine xr_cVi [_] dX6_gatherWithin_62 (xcv_of cf_X4_followParts ml_6_61 (by decide)) rfl lay_57 rfl rfl rfl (Nat.le_of_ble_eq_true rfl) (c4_followParts m3 hwhole isPl_57 (by decide) w3 hgood.2 ⟨by rw [eo3 57 (by decide)]; exact k9, Nat.zero_le _, fun k hk hkf => absurd hkf (Nat.not_lt_zero _)⟩) (fun v I4 J4 hc => ?_)
  obtain ⟨hv, f4, o4, k4⟩ := hc
  rcases hv with ⟨rfl, hs4, e4, w4, g4, p4⟩ | ⟨rfl, hs4, u, e4, hu, hl4, w4⟩
  rotate_left
  · exact (wW_200 hM hwhole hz e4 w4.nodup hu hl4).elim
  have hse := wW_ext hM hwhole e4 w4.nodup
  subst hse
  have hne : wW S.2.1 m' ≠ [] := fun q => by have := wW_at0 S.2.1 m'; rw [q] at this; cases this
  have hpos : 0 < (wW S.2.1 m').length := List.length_pos_iff.mpr hne
  have q4 : kT I4 J4 62 200 512 ks2 := q2.cg (fun a h1 h2 => ⟨by rw [(f4 a (by simp only [List.mem_cons, List.not_mem_nil, or_false]; omega)).1, eo3 a (by omega)], by rw [(f4 a (by simp only [List.mem_cons, List.not_mem_nil, or_false]; omega)).2]⟩)
  refine xr_if_eq 75 dX6_gatherWithin_65 (by decide) (fun hz2 => ?_) (fun hz2 => ?_)
  · exact absurd hz2 (by decide)
  refine xr_aload0 dX6_gatherWithin_68 rfl ?_
  refine xr_getR dX6_gatherWithin_69 fk_6_12 lay_56 rfl ?_
  refine xr_cVv [] dX6_gatherWithin_72 (xcv_of cf_X4_classify ml_6_65 (by decide)) rfl lay_57 rfl rfl rfl (Nat.le_of_ble_eq_true rfl) (c4_classify hM hwhole isPl_57 w4 g4 hne k4 p4.fl ⟨ks2, q4⟩ (by rw [o4 10 (by decide) (by decide), eo3 57 (by decide)]; exact k10) (by decide) (fun q => by omega)) (fun I5 J5 hc => ?_)
  obtain ⟨kd, -, q5, f5, -⟩ := hc
  have w5 : pWd I5 J5 57 (wW S.2.1 m') := w4.cg (fun a h1 h2 => f5 a (by simp only [List.mem_cons, List.not_mem_nil, or_false]; omega))
  refine K75 I5 J5 ⟨⟨_, w5.1⟩, q5⟩ ?_ ⟨hwhole, ?_, fun _ => ⟨w5, kd⟩⟩ ((f03.tr (f4.mono (by decide))).tr (f5.mono (by decide)))
  · rw [(f5 56 (by decide)).1, (f4 56 (by decide)).1]; exact a3
  · rw [(f5 56 (by decide)).1, (f4 56 (by decide)).1]; exact z3
end C36
