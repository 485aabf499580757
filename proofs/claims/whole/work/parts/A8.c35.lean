section C35
variable {G : xG} {I : xI} {J : xJ}
theorem c4_enter {p : Nat} (hp : isPl p) {hs : List (List Nat)} (h : pWd I J p hs) {w : Nat} (hw : isW w) {ws : List Nat} (hs' : cWd I J w ws) (h16 : w16 ws) : xCon G M_X4_enter [.ref (G.1 p), .ref (G.1 w)] I J (xpi fun v I' J' => (∃ i, hs[i]? = some ws ∧ v = nI i ∧ I = I' ∧ J = J') ∨ (ws ∉ hs ∧ hs.length = 200 ∧ v = -1 ∧ I = I' ∧ J = J') ∨ (ws ∉ hs ∧ hs.length < 200 ∧ v = nI hs.length ∧ pWd I' J' p (hs ++ [ws]) ∧ cfx [p + 1, p + 1 + 1, p + 1 + 2, p + 1 + 3] I J I' J')) := by
  refine x_ent (by decide) (Nat.le_of_ble_eq_true rfl) rfl ?_
  show xT _ _ _ 0 [_, _] _ _ _
  refine xr_aload0 dX4_enter_0 rfl ?_
  refine xr_getR dX4_enter_1 fk_4_14 hp.1 rfl ?_
  refine xr_aload1 dX4_enter_4 rfl ?_
  refine xr_getJv dX4_enter_5 fk_4_65 hw rfl hs'.1 ?_
  refine xr_aload1 dX4_enter_8 rfl ?_
  refine xr_getIv dX4_enter_9 fk_4_69 hw rfl hs'.2 ?_
  refine xr_cVi [_, _] dX4_enter_12 (xcv_of cf_X0_add ml_4_83 (by decide)) rfl hp.2.1.1 rfl rfl rfl (Nat.le_of_ble_eq_true rfl) (pl_add hp h h16) (fun v I1 J1 hc => ?_)
  refine xr_iret dX4_enter_15 rfl rfl hc
theorem c6_beginWithEmpty {ks : List kK} (h : kT I J 58 200 512 ks) : xCon G M_X6_beginWithEmpty [.ref (G.1 56)] I J (xpv fun I' J' => pWd I' J' 57 [[]] ∧ I' 57 9 = nI 0 ∧ I' 57 10 = nI 0 ∧ cfx [57, 58, 59, 60, 61, 72] I J I' J') := by
  refine x_ent (by decide) (Nat.le_of_ble_eq_true rfl) rfl ?_
  show xT _ _ _ 0 [_] _ _ _
  refine xr_aload0 dX6_beginWithEmpty_0 rfl ?_
  refine xr_getR dX6_beginWithEmpty_1 fk_6_12 lay_56 rfl ?_
  refine xr_cVv [] dX6_beginWithEmpty_4 (xcv_of cf_X4_reset ml_6_83 (by decide)) rfl lay_57 rfl rfl rfl (Nat.le_of_ble_eq_true rfl) (c4_reset isPl_57 h) (fun I1 J1 hc => ?_)
  obtain ⟨w1, k9, k10, f1, -⟩ := hc
  refine xr_aload0 dX6_beginWithEmpty_7 rfl ?_
  refine xr_getR dX6_beginWithEmpty_8 fk_6_21 lay_56 rfl ?_
  refine xr_cVv [] dX6_beginWithEmpty_11 (xcv_of cf_X7_empty ml_6_86 (by decide)) rfl lay_72 rfl rfl rfl (Nat.le_of_ble_eq_true rfl) (c7_empty (show isW 72 from rfl)) (fun I2 J2 hc => ?_)
  obtain ⟨d2, f2⟩ := hc
  have w2 : pWd I2 J2 57 [] := w1.cg (fun a h1 h2 => f2 a (by simp only [List.mem_cons, List.not_mem_nil, or_false]; omega))
  refine xr_aload0 dX6_beginWithEmpty_14 rfl ?_
  refine xr_getR dX6_beginWithEmpty_15 fk_6_12 lay_56 rfl ?_
  refine xr_aload0 dX6_beginWithEmpty_18 rfl ?_
  refine xr_getR dX6_beginWithEmpty_19 fk_6_21 lay_56 rfl ?_
  refine xr_cVi [_] dX6_beginWithEmpty_22 (xcv_of cf_X4_enter ml_6_89 (by decide)) rfl lay_57 rfl rfl rfl (Nat.le_of_ble_eq_true rfl) (c4_enter isPl_57 w2 (show isW 72 from rfl) d2 w16.nil) (fun v I3 J3 hc => ?_)
  rcases hc with ⟨i, hi, -⟩ | ⟨-, hl, -⟩ | ⟨-, -, rfl, w3, f3⟩
  · simp at hi
  · simp at hl
  refine xr_pop dX6_beginWithEmpty_25 rfl ?_
  refine xr_vret dX6_beginWithEmpty_26 rfl rfl ⟨w3, ?_, ?_, ((f1.mono (by decide)).tr (f2.mono (by decide))).tr (f3.mono (by decide))⟩
  · rw [(f3 57 (by decide)).1, (f2 57 (by decide)).1]; exact k9
  · rw [(f3 57 (by decide)).1, (f2 57 (by decide)).1]; exact k10
noncomputable def wxT (M : xMac) (w : List Nat) (k : Nat) : List (List Nat) := (((mMarks M).take k).filter (fun t => !(w.getLast? == some (opp t)))).map (fun t => w ++ [t])
theorem wxT_all (M : xMac) (w : List Nat) : wxT M w (mMarks M).length = wx M w := by unfold wxT wx; rw [List.take_length]
theorem wxT_succ {M : xMac} {w : List Nat} {k : Nat} (hk : k < (mMarks M).length) : wxT M w (k + 1) = wxT M w k ++ (if w.getLast? = some (opp (mMarks M)[k]) then [] else [w ++ [(mMarks M)[k]]]) := by
  unfold wxT
  rw [List.take_succ_eq_append_getElem hk, List.filter_append, List.map_append]
  congr 1
  by_cases e : w.getLast? = some (opp (mMarks M)[k])
  · rw [if_pos e, List.filter_cons_of_neg (by rw [e]; simp)]; rfl
  · rw [if_neg e, List.filter_cons_of_pos (by simpa using e)]; rfl
theorem wxT_pre (M : xMac) (w : List Nat) (k : Nat) : ∃ e, wx M w = wxT M w k ++ e := by
  refine ⟨(((mMarks M).drop k).filter (fun t => !(w.getLast? == some (opp t)))).map (fun t => w ++ [t]), ?_⟩
  unfold wx wxT
  rw [← List.map_append, ← List.filter_append, List.take_append_drop]
theorem c6_extend {M : xMac} (hm : cMc I M) {hs : List (List Nat)} (h : pWd I J 57 hs) {i : Nat} (hi : i < hs.length) (hg : wGood M hs[i]) (h15 : hs[i].length < 16) (hnew : ∀ x ∈ wx M hs[i], x ∉ hs) : xCon G M_X6_extend [.ref (G.1 56), .ref (G.1 21), .int (nI i)] I J (xpi fun v I' J' => ((hs.length + (wx M hs[i]).length ≤ 200 ∧ v = 1 ∧ pWd I' J' 57 (hs ++ wx M hs[i])) ∨ (200 < hs.length + (wx M hs[i]).length ∧ v = 0 ∧ ∃ hs2, pWd I' J' 57 hs2)) ∧ cfx [58, 59, 60, 61, 72] I J I' J') := by
  have hM := hm.1.1
  have hN8 := hM.2.2.1
  have hml := mMarks_len M
  have hW : isW 72 := rfl
  have hlen := h.len.1
  generalize hw : hs[i] = w at *
  have hat : hs[i]? = some w := by rw [List.getElem?_eq_getElem hi, hw]
  have hwn := wx_nodup M w
  have L : ∀ k, k ≤ (mMarks M).length → ∀ I1 J1 (z4 : Option Value), cfx [58, 59, 60, 61, 72] I J I1 J1 → pWd I1 J1 57 (hs ++ wxT M w k) → xT G M_X6_extend (xMQ G (xpi fun v I' J' => ((hs.length + (wx M w).length ≤ 200 ∧ v = 1 ∧ pWd I' J' 57 (hs ++ wx M w)) ∨ (200 < hs.length + (wx M w).length ∧ v = 0 ∧ ∃ hs2, pWd I' J' 57 hs2)) ∧ cfx [58, 59, 60, 61, 72] I J I' J')) 2 [some (.ref (G.1 56)), some (.ref (G.1 21)), some (.int (nI i)), some (.int (nI k)), z4] [] I1 J1 := by
    refine x_for (fun k hk IH I1 J1 z4 f1 w1 => ?_)
    have m1 := f1.mc hm (by decide)
    have hl1 := w1.len.1
    refine xr_iload3 dX6_extend_2 rfl ?_
    refine xr_aload1 dX6_extend_3 rfl ?_
    refine xr_getIv dX6_extend_4 fk_6_93 lay_21 rfl m1.2.2.2.1.1 ?_
    refine xr_icmp_ge 79 dX6_extend_7 (by decide) (fun hc => ?_) (fun hc => ?_)
    · have : k = (mMarks M).length := by have := nle hc; omega
      subst this
      rw [wxT_all] at w1 hl1
      rw [List.length_append] at hl1
      refine xr_ic1 dX6_extend_79 ?_
      refine xr_zret dX6_extend_80 rfl rfl (by simp) ⟨Or.inl ⟨hl1, rfl, w1⟩, f1⟩
    have hkl := nlt hc
    have IH := IH hkl
    have hil : i < (hs ++ wxT M w k).length := by rw [List.length_append]; omega
    have hie : (hs ++ wxT M w k)[i] = w := by rw [List.getElem_append_left hi]; exact hw
    have hmm := List.getElem_mem hkl
    have hm16 := marks_16 hM hmm
    refine xr_aload0 dX6_extend_10 rfl ?_
    refine xr_getR dX6_extend_11 fk_6_12 lay_56 rfl ?_
    refine xr_iload2 dX6_extend_14 rfl ?_
    refine xr_aload0 dX6_extend_15 rfl ?_
    refine xr_getR dX6_extend_16 fk_6_21 lay_56 rfl ?_
    refine xr_cVv [_, _] dX6_extend_19 (xcv_of cf_X4_load ml_6_96 (by decide)) rfl lay_57 rfl rfl rfl (Nat.le_of_ble_eq_true rfl) (c4_load isPl_57 w1 hil hW) (fun I2 J2 hc2 => ?_)
    obtain ⟨d2, f2⟩ := hc2
    rw [hie] at d2
    have m2 := f2.mc m1 (by decide)
    have v26 : I2 26 k = nI (mMarks M)[k] := by
      have := m2.2.2.2.1.2 k hkl
      rw [Nat.zero_add] at this
      exact this
    have w2 : pWd I2 J2 57 (hs ++ wxT M w k) := w1.cg (fun a h1 h2 => f2 a (by simp only [List.mem_cons, List.not_mem_nil, or_false]; omega))
    refine xr_aload0 dX6_extend_22 rfl ?_
    refine xr_getR dX6_extend_23 fk_6_21 lay_56 rfl ?_
    refine xr_getIv dX6_extend_26 fk_6_100 lay_72 rfl d2.2 ?_
    refine xr_istore dX6_extend_29 (Nat.le_of_ble_eq_true rfl) ?_
    show xT _ _ _ 31 [_, _, _, _, _] _ _ _
    refine xr_aload0 dX6_extend_31 rfl ?_
    refine xr_getR dX6_extend_32 fk_6_21 lay_56 rfl ?_
    refine xr_aload1 dX6_extend_35 rfl ?_
    refine xr_getR dX6_extend_36 fk_6_103 lay_21 rfl ?_
    show xT _ _ _ 39 _ _ _ _
    refine xr_iload3 dX6_extend_39 rfl ?_
    refine xr_ialdv k dX6_extend_40 lay_26 rfl (by omega) (by decide) v26 ?_
    refine xr_cVi [_] dX6_extend_41 (xcv_of cf_X7_push ml_6_106 (by decide)) rfl lay_72 rfl rfl rfl (Nat.le_of_ble_eq_true rfl) (c7_push hW d2 (hg.w16 hM) hm16) (fun v I3 J3 hc3 => ?_)
    have hpl := wpush_len w (mMarks M)[k]
    rcases hc3 with ⟨hbad, -⟩ | ⟨hgd, rfl, d3, f3⟩
    · omega
    have w3 : pWd I3 J3 57 (hs ++ wxT M w k) := w2.cg (fun a h1 h2 => f3 a (by simp only [List.mem_cons, List.not_mem_nil, or_false]; omega))
    have f03 : cfx [58, 59, 60, 61, 72] I J I3 J3 := (f1.tr (f2.mono (by decide))).tr (f3.mono (by decide))
    refine xr_pop dX6_extend_44 rfl ?_
    refine xr_aload0 dX6_extend_45 rfl ?_
    refine xr_getR dX6_extend_46 fk_6_21 lay_56 rfl ?_
    refine xr_getIv dX6_extend_49 fk_6_100 lay_72 rfl d3.2 ?_
    refine xr_iload dX6_extend_52 rfl ?_
    have hsucc := wxT_succ (w := w) hkl
    by_cases e : w.getLast? = some (opp (mMarks M)[k])
    · rw [if_pos e, List.append_nil] at hsucc
      rw [wpush_can e] at d3 ⊢
      have hdl : w.dropLast.length ≤ w.length := by rw [List.length_dropLast]; omega
      refine xr_icmp_le 73 dX6_extend_54 (by decide) (fun hle => ?_) (fun hle => ?_)
      rotate_left
      · exact absurd ((nI_leI (by omega) (by omega)).mpr hdl) hle
      refine xr_iinc dX6_extend_73 rfl ii_1 (Nat.le_of_ble_eq_true rfl) ?_
      show xT _ _ _ 76 [_, _, _, _, _] _ _ _
      refine xr_goto 2 dX6_extend_76 (by decide) ?_
      rw [k_1, nI_add]
      rw [hsucc] at IH
      exact IH I3 J3 _ f03 w3
    · rw [if_neg e] at hsucc
      rw [wpush_app e] at d3 hgd ⊢
      have hal : (w ++ [(mMarks M)[k]]).length = w.length + 1 := by simp
      refine xr_icmp_le 73 dX6_extend_54 (by decide) (fun hle => ?_) (fun hle => ?_)
      · have := (nI_leI (by omega) (by omega)).mp hle; omega
      have h16 : w16 (w ++ [(mMarks M)[k]]) := ⟨hgd, fun x hx => by
        rcases List.mem_append.mp hx with q | q
        · exact (hg.w16 hM).2 x q
        · rw [List.mem_singleton.mp q]; exact hm16⟩
      have hxin : w ++ [(mMarks M)[k]] ∈ wx M w := wx_mem.mpr ⟨_, hmm, e, rfl⟩
      obtain ⟨er, her⟩ := wxT_pre M w (k + 1)
      rw [hsucc] at her
      have hnin : w ++ [(mMarks M)[k]] ∉ hs ++ wxT M w k := fun q => by
        rcases List.mem_append.mp q with q | q
        · exact hnew _ hxin q
        · rw [her, List.append_assoc, List.nodup_append] at hwn
          exact hwn.2.2 _ q _ (List.mem_append_left _ (List.mem_singleton.mpr rfl)) rfl
      have hlx : (wxT M w k).length + 1 ≤ (wx M w).length := by
        rw [her, List.length_append, List.length_append, List.length_singleton]
        omega
      refine xr_aload0 dX6_extend_57 rfl ?_
      refine xr_getR dX6_extend_58 fk_6_12 lay_56 rfl ?_
      refine xr_aload0 dX6_extend_61 rfl ?_
      refine xr_getR dX6_extend_62 fk_6_21 lay_56 rfl ?_
      refine xr_cVi [_] dX6_extend_65 (xcv_of cf_X4_enter ml_6_89 (by decide)) rfl lay_57 rfl rfl rfl (Nat.le_of_ble_eq_true rfl) (c4_enter isPl_57 w3 hW d3 h16) (fun v I4 J4 hc4 => ?_)
      rcases hc4 with ⟨j, hj, -⟩ | ⟨-, hl4, rfl, rfl, rfl⟩ | ⟨-, hl4, rfl, w4, f4⟩
      · exact absurd (List.mem_of_getElem? hj) hnin
      · rw [List.length_append] at hl4
        refine xr_if_ge 73 dX6_extend_68 (by decide) (fun hz => ?_) (fun hz => ?_)
        · exact absurd hz (by decide)
        refine xr_ic0 dX6_extend_71 ?_
        refine xr_zret dX6_extend_72 rfl rfl (by simp) ⟨Or.inr ⟨by omega, rfl, _, w3⟩, f03⟩
      · skip
        refine xr_if_ge 73 dX6_extend_68 (by decide) (fun hz => ?_) (fun hz => ?_)
        rotate_left
        · exact absurd (nI_pos' (by omega)) hz
        refine xr_iinc dX6_extend_73 rfl ii_1 (Nat.le_of_ble_eq_true rfl) ?_
        show xT _ _ _ 76 [_, _, _, _, _] _ _ _
        refine xr_goto 2 dX6_extend_76 (by decide) ?_
        rw [k_1, nI_add]
        rw [hsucc, ← List.append_assoc] at IH
        exact IH I4 J4 _ (f03.tr (f4.mono (by decide))) w4
  refine x_ent (by decide) (Nat.le_of_ble_eq_true rfl) rfl ?_
  show xT _ _ _ 0 [_, _, _, _, _] _ _ _
  refine xr_ic0 dX6_extend_0 ?_
  refine xr_istore3 dX6_extend_1 (Nat.le_of_ble_eq_true rfl) ?_
  show xT _ _ _ 2 [_, _, _, _, _] _ _ _
  exact L 0 (Nat.zero_le _) I J _ cfx.rf (by simpa [wxT] using h)
end C35
