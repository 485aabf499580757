section C38
variable {G : xG} {I : xI} {J : xJ}
theorem rOfP1 {K x : Nat} (hx : x < K) : rOfP K 1 x = [x] := by
  show rOfP K 0 (x / K) ++ [x % K] = [x]
  rw [Nat.mod_eq_of_lt hx]
  rfl
theorem rOfP2 {K x y : Nat} (hx : x < K) (hy : y < K) : rOfP K 2 (x * K + y) = [x, y] := by
  have hK : 0 < K := by omega
  show rOfP K 1 ((x * K + y) / K) ++ [(x * K + y) % K] = [x, y]
  rw [Nat.add_comm (x * K), Nat.add_mul_div_right _ _ hK, Nat.div_eq_of_lt hy, Nat.zero_add, Nat.add_mul_mod_self_right, Nat.mod_eq_of_lt hy, rOfP1 hx]
  rfl
theorem hp_take {M : xMac} {A hs hs' : List (List Nat)} {q : List Nat} {e : List (List Nat)} (h : isHp M A hs) (he : hs' = hs ++ e) (hq : q ∈ hs') (ht : tkP M hs q hs') (hn : hs'.Nodup) (hc : hClo M hs') : isHp M (A ++ [q]) hs' := by
  refine ⟨hn, fun u => ⟨fun hu => ?_, fun hu => hc.reach (fun a ha => ?_) hu⟩⟩
  · refine ht (wReach M (A ++ [q])) (fun a ha => ((h.2 a).mp ha).mono (fun b hb => List.mem_append_left _ hb)) (wReach.self (List.mem_append_right _ (List.mem_singleton.mpr rfl))) (fun a x ha hx => ha.part hx) u hu
  · rcases List.mem_append.mp ha with r | r
    · rw [he]; exact List.mem_append_left _ ((h.2 a).mpr (wReach.self r))
    · rw [List.mem_singleton.mp r]; exact hq
/-- the words that are looked at, by their numbers -/
def cLk (I : xI) (hs cs : List (List Nat)) : Prop := I 56 7 = nI cs.length ∧ ∀ c (hc : c < cs.length), ∃ j, I 75 c = nI j ∧ hs[j]? = some cs[c]
theorem cLk.ext {hs hs' cs e : List (List Nat)} (h : cLk I hs cs) (he : hs' = hs ++ e) : cLk I hs' cs := ⟨h.1, fun c hc => by
  obtain ⟨j, h1, h2⟩ := h.2 c hc
  exact ⟨j, h1, by rw [he, List.getElem?_append_left (List.getElem?_eq_some_iff.mp h2).1]; exact h2⟩⟩
def lkS (I : xI) (J : xJ) (M : xMac) (d : Nat) (w : List Nat) (hs Sn : List (List Nat)) (I1 : xI) (J1 : xJ) (hs1 e1 : List (List Nat)) (t p : Nat) : Prop := hs1 = hs ++ e1 ∧ isHp M (Sn ++ candP M d w t p) hs1 ∧ pWd I1 J1 57 hs1 ∧ (∀ a ∈ hs1, wGood M a) ∧ pFo I1 M 57 hs1 hs1.length ∧ I1 57 8 = nI (mK M) ∧ cLk I1 hs1 (candP M d w t p) ∧ cfx [56, 57, 58, 59, 60, 61, 66, 67, 71, 72, 73, 75] I J I1 J1 ∧ (∀ j, j ≠ 7 → I1 56 j = I 56 j) ∧ ∀ j, j ≠ 8 → j ≠ 9 → I1 57 j = I 57 j
theorem lkS.cg {J : xJ} {M : xMac} {d : Nat} {w : List Nat} {hs Sn hs1 e1 : List (List Nat)} {I1 I2 : xI} {J1 J2 : xJ} {t p : Nat} (s : lkS I J M d w hs Sn I1 J1 hs1 e1 t p) (f : cfx [72, 73] I1 J1 I2 J2) : lkS I J M d w hs Sn I2 J2 hs1 e1 t p := by
  obtain ⟨s1, s2, s3, s4, s5, s6, s7, s8, s9, s10⟩ := s
  refine ⟨s1, s2, s3.cg (fun a h1 h2 => f a (by simp only [List.mem_cons, List.not_mem_nil, or_false]; omega)), s4, ⟨by rw [(f 57 (by decide)).1]; exact s5.1, s5.2.1, fun k hk hkf => by rw [(f (57 + 10) (by decide)).1, (f (57 + 9) (by decide)).1]; exact s5.2.2 k hk hkf⟩, by rw [(f 57 (by decide)).1]; exact s6, ⟨by rw [(f 56 (by decide)).1]; exact s7.1, by rw [(f 75 (by decide)).1]; exact s7.2⟩, s8.tr (f.mono (by decide)), fun j hj => by rw [(f 56 (by decide)).1]; exact s9 j hj, fun j h8 h9 => by rw [(f 57 (by decide)).1]; exact s10 j h8 h9⟩
theorem c6_lookAtParts {M : xMac} (hm : cMc I M) (hwh : mWhole M) {d : Nat} (hd : d = 1 ∨ d = 2) {hs Sn : List (List Nat)} (h : pWd I J 57 hs) (hg : ∀ a ∈ hs, wGood M a) (hf : pFo I M 57 hs hs.length) (hHp : isHp M Sn hs) {i : Nat} {w : List Nat} (hi : hs[i]? = some w) (h8 : I 57 8 = nI (mK M)) : xCon G M_X6_lookAtParts [.ref (G.1 56), .ref (G.1 21), .int (nI i), .int (nI d)] I J (xpi fun v I' J' => ((v = 1 ∧ (∀ t (ht : t < (mMarks M).length), (wpush w (mMarks M)[t]).length ≤ 16) ∧ ∃ hs' e, lkS I J M d w hs Sn I' J' hs' e (mMarks M).length 0) ∨ (v = 0 ∧ (longP M w = true ∨ ∃ t p, t < (mMarks M).length ∧ p ≤ mK M ^ d ∧ ∃ hs2 : List (List Nat), hs2.Nodup ∧ 200 < hs2.length ∧ ∀ u ∈ hs2, wReach M (Sn ++ candP M d w t p) u) ∧ ∃ hs2, pWd I' J' 57 hs2)) ∧ cfx [56, 57, 58, 59, 60, 61, 66, 67, 71, 72, 73, 75] I J I' J' ∧ ∀ j, j ≠ 7 → I' 56 j = I 56 j) := by
  have hM := hm.1.1
  have hK2 := hM.1
  have hK4 := hM.2.1
  have hN8 := hM.2.2.1
  have hml := mMarks_len M
  have hwg := hg w (List.mem_of_getElem? hi)
  have hF : mK M ^ d = (if d = 1 then 1 else mK M) * mK M := by
    rcases hd with rfl | rfl
    · simp
    · rw [if_neg (by decide), Nat.pow_succ, Nat.pow_one]
  have hFl : (if d = 1 then 1 else mK M) ≤ mK M := by split <;> omega
  have hfe : (d = 1 → (if d = 1 then 1 else mK M) = 1) ∧ (d = 2 → (if d = 1 then 1 else mK M) = mK M) := ⟨fun q => if_pos q, fun q => if_neg (by omega)⟩
  generalize (if d = 1 then 1 else mK M) = fi at *
  have hKd : mK M ^ d ≤ 16 := by
    rw [hF]
    exact Nat.le_trans (Nat.mul_le_mul hFl hK4) (Nat.mul_le_mul_right 4 hK4)
  have hcl : ∀ t p, t ≤ (mMarks M).length → p ≤ mK M ^ d → (candP M d w t p).length = t * mK M ^ d + p := by
    intro t p ht hp
    have key : ∀ t, t ≤ (mMarks M).length → (((mMarks M).take t).flatMap (cand1 M d w)).length = t * mK M ^ d := by
      intro t
      induction t with
      | zero => intro _; simp
      | succ t IH =>
        intro ht
        rw [List.take_succ_eq_append_getElem (by omega), List.flatMap_append, List.length_append, IH (by omega), Nat.add_mul, Nat.one_mul]
        simp [cand1]
    unfold candP
    rw [List.length_append, key t ht, List.length_map, List.length_range]
  have Lt : ∀ t, t ≤ (mMarks M).length → ∀ I1 J1 hs1 e1 (z6 z7 z8 : Option Value), lkS I J M d w hs Sn I1 J1 hs1 e1 t 0 → (∀ t' (ht : t' < (mMarks M).length), t' < t → (wpush w (mMarks M)[t']).length ≤ 16) → xT G M_X6_lookAtParts (xMQ G (xpi fun v I' J' => ((v = 1 ∧ (∀ t (ht : t < (mMarks M).length), (wpush w (mMarks M)[t]).length ≤ 16) ∧ ∃ hs' e, lkS I J M d w hs Sn I' J' hs' e (mMarks M).length 0) ∨ (v = 0 ∧ (longP M w = true ∨ ∃ t p, t < (mMarks M).length ∧ p ≤ mK M ^ d ∧ ∃ hs2 : List (List Nat), hs2.Nodup ∧ 200 < hs2.length ∧ ∀ u ∈ hs2, wReach M (Sn ++ candP M d w t p) u) ∧ ∃ hs2, pWd I' J' 57 hs2)) ∧ cfx [56, 57, 58, 59, 60, 61, 66, 67, 71, 72, 73, 75] I J I' J' ∧ ∀ j, j ≠ 7 → I' 56 j = I 56 j)) 23 [some (.ref (G.1 56)), some (.ref (G.1 21)), some (.int (nI i)), some (.int (nI d)), some (.int (nI fi)), some (.int (nI t)), z6, z7, z8] [] I1 J1 := by
    refine x_for (fun t ht IH I1 J1 hs1 e1 z6 z7 z8 st ok => ?_)
    have st' := st
    obtain ⟨s1, s2, s3, s4, s5, s6, s7, s8, s9, s10⟩ := st'
    have m1 := s8.mc hm (by decide)
    have hl1 := s3.len.1
    refine xr_iload dX6_lookAtParts_23 rfl ?_
    refine xr_aload1 dX6_lookAtParts_25 rfl ?_
    refine xr_getIv dX6_lookAtParts_26 fk_6_93 lay_21 rfl m1.2.2.2.1.1 ?_
    refine xr_icmp_ge 180 dX6_lookAtParts_29 (by decide) (fun hc => ?_) (fun hc => ?_)
    · have : t = (mMarks M).length := by have := nle hc; omega
      subst this
      refine xr_ic1 dX6_lookAtParts_180 ?_
      refine xr_zret dX6_lookAtParts_181 rfl rfl (by simp) ⟨Or.inl ⟨rfl, fun t ht => ok t ht ht, hs1, e1, st⟩, s8, s9⟩
    have htl := nlt hc
    have IH := IH htl
    have hil : i < hs1.length := by rw [s1, List.length_append]; have := (List.getElem?_eq_some_iff.mp hi).1; omega
    have hie : hs1[i] = w := by
      have : hs1[i]? = some w := by rw [s1, List.getElem?_append_left (List.getElem?_eq_some_iff.mp hi).1]; exact hi
      exact (List.getElem?_eq_some_iff.mp this).2
    have hmm := List.getElem_mem htl
    have hm16 := marks_16 hM hmm
    refine xr_aload0 dX6_lookAtParts_32 rfl ?_
    refine xr_getR dX6_lookAtParts_33 fk_6_12 lay_56 rfl ?_
    refine xr_iload2 dX6_lookAtParts_36 rfl ?_
    refine xr_aload0 dX6_lookAtParts_37 rfl ?_
    refine xr_getR dX6_lookAtParts_38 fk_6_21 lay_56 rfl ?_
    refine xr_cVv [_, _] dX6_lookAtParts_41 (xcv_of cf_X4_load ml_6_96 (by decide)) rfl lay_57 rfl rfl rfl (Nat.le_of_ble_eq_true rfl) (c4_load isPl_57 s3 hil (show isW 72 from rfl)) (fun I2 J2 hc2 => ?_)
    obtain ⟨d2, f2⟩ := hc2
    rw [hie] at d2
    have m2 := f2.mc m1 (by decide)
    have v26 : I2 26 t = nI (mMarks M)[t] := by
      have := m2.2.2.2.1.2 t htl
      rw [Nat.zero_add] at this
      exact this
    refine xr_aload0 dX6_lookAtParts_44 rfl ?_
    refine xr_getR dX6_lookAtParts_45 fk_6_21 lay_56 rfl ?_
    refine xr_aload1 dX6_lookAtParts_48 rfl ?_
    refine xr_getR dX6_lookAtParts_49 fk_6_103 lay_21 rfl ?_
    refine xr_iload dX6_lookAtParts_52 rfl ?_
    refine xr_ialdv t dX6_lookAtParts_54 lay_26 rfl (by omega) (by decide) v26 ?_
    refine xr_cVi [_] dX6_lookAtParts_55 (xcv_of cf_X7_push ml_6_106 (by decide)) rfl lay_72 rfl rfl rfl (Nat.le_of_ble_eq_true rfl) (c7_push (show isW 72 from rfl) d2 (hwg.w16 hM) hm16) (fun v I3 J3 hc3 => ?_)
    rcases hc3 with ⟨hbad, rfl, rfl, rfl⟩ | ⟨hgd, rfl, d3, f3⟩
    · skip
      refine xr_if_ne 63 dX6_lookAtParts_58 (by decide) (fun hz => ?_) (fun hz => ?_)
      · exact absurd rfl hz
      refine xr_ic0 dX6_lookAtParts_61 ?_
      refine xr_zret dX6_lookAtParts_62 rfl rfl (by simp) ⟨Or.inr ⟨rfl, Or.inl ?_, hs1, s3.cg (fun a h1 h2 => f2 a (by simp only [List.mem_cons, List.not_mem_nil, or_false]; omega))⟩, s8.tr (f2.mono (by decide)), fun j hj => by rw [(f2 56 (by decide)).1]; exact s9 j hj⟩
      unfold longP
      exact List.any_eq_true.mpr ⟨_, hmm, decide_eq_true hbad⟩
    have hwp : wGood M (wpush w (mMarks M)[t]) := ⟨hgd, hwg.2.1.push _, hwg.2.2.push (mMarks_ok M _ hmm)⟩
    have hmg : (mMarks M).getD t 0 = (mMarks M)[t] := marks_getD htl
    generalize hu : wpush w (mMarks M)[t] = u at *
    have st3 := st.cg ((f2.tr f3).mono (by decide))
    refine xr_if_ne 63 dX6_lookAtParts_58 (by decide) (fun hz => ?_) (fun hz => ?_)
    rotate_left
    · exact absurd hz (by decide)
    have Lx : ∀ x, x ≤ fi → ∀ I4 J4 hs4 e4 (z7 z8 : Option Value), lkS I J M d w hs Sn I4 J4 hs4 e4 t (x * mK M) → cWd I4 J4 72 u → xT G M_X6_lookAtParts (xMQ G (xpi fun v I' J' => ((v = 1 ∧ (∀ t (ht : t < (mMarks M).length), (wpush w (mMarks M)[t]).length ≤ 16) ∧ ∃ hs' e, lkS I J M d w hs Sn I' J' hs' e (mMarks M).length 0) ∨ (v = 0 ∧ (longP M w = true ∨ ∃ t p, t < (mMarks M).length ∧ p ≤ mK M ^ d ∧ ∃ hs2 : List (List Nat), hs2.Nodup ∧ 200 < hs2.length ∧ ∀ u ∈ hs2, wReach M (Sn ++ candP M d w t p) u) ∧ ∃ hs2, pWd I' J' 57 hs2)) ∧ cfx [56, 57, 58, 59, 60, 61, 66, 67, 71, 72, 73, 75] I J I' J' ∧ ∀ j, j ≠ 7 → I' 56 j = I 56 j)) 66 [some (.ref (G.1 56)), some (.ref (G.1 21)), some (.int (nI i)), some (.int (nI d)), some (.int (nI fi)), some (.int (nI t)), some (.int (nI x)), z7, z8] [] I4 J4 := by
      refine x_for (fun x hx IHx I4 J4 hs4 e4 z7 z8 st4 d4 => ?_)
      refine xr_iload dX6_lookAtParts_66 rfl ?_
      refine xr_iload dX6_lookAtParts_68 rfl ?_
      refine xr_icmp_ge 174 dX6_lookAtParts_70 (by decide) (fun hcx => ?_) (fun hcx => ?_)
      · have : x = fi := by have := nle hcx; omega
        subst this
        refine xr_iinc dX6_lookAtParts_174 rfl ii_1 (Nat.le_of_ble_eq_true rfl) ?_
        show xT _ _ _ 177 [_, _, _, _, _, _, _, _, _] _ _ _
        refine xr_goto 23 dX6_lookAtParts_177 (by decide) ?_
        rw [k_1, nI_add]
        refine IH I4 J4 hs4 e4 _ _ _ ?_ (fun t' ht' hlt => ?_)
        · unfold lkS at st4 ⊢
          rw [← hF, candP_end htl] at st4
          exact st4
        · rcases Nat.lt_or_ge t' t with q | q
          · exact ok t' ht' q
          · have : t' = t := by omega
            subst this
            rw [hu]; exact hgd
      have hxl := nlt hcx
      have IHx := IHx hxl
      have hxK : (x + 1) * mK M ≤ mK M ^ d := by rw [hF]; exact Nat.mul_le_mul_right _ hxl
      rw [Nat.add_mul, Nat.one_mul] at hxK
      have Ly : ∀ y, y ≤ mK M → ∀ I5 J5 hs5 e5 (z8 : Option Value), lkS I J M d w hs Sn I5 J5 hs5 e5 t (x * mK M + y) → cWd I5 J5 72 u → xT G M_X6_lookAtParts (xMQ G (xpi fun v I' J' => ((v = 1 ∧ (∀ t (ht : t < (mMarks M).length), (wpush w (mMarks M)[t]).length ≤ 16) ∧ ∃ hs' e, lkS I J M d w hs Sn I' J' hs' e (mMarks M).length 0) ∨ (v = 0 ∧ (longP M w = true ∨ ∃ t p, t < (mMarks M).length ∧ p ≤ mK M ^ d ∧ ∃ hs2 : List (List Nat), hs2.Nodup ∧ 200 < hs2.length ∧ ∀ u ∈ hs2, wReach M (Sn ++ candP M d w t p) u) ∧ ∃ hs2, pWd I' J' 57 hs2)) ∧ cfx [56, 57, 58, 59, 60, 61, 66, 67, 71, 72, 73, 75] I J I' J' ∧ ∀ j, j ≠ 7 → I' 56 j = I 56 j)) 76 [some (.ref (G.1 56)), some (.ref (G.1 21)), some (.int (nI i)), some (.int (nI d)), some (.int (nI fi)), some (.int (nI t)), some (.int (nI x)), some (.int (nI y)), z8] [] I5 J5 := by
        refine x_for (fun y hy IHy I5 J5 hs5 e5 z8 st5 d5 => ?_)
        have st5' := st5
        obtain ⟨s1, s2, s3, s4, s5, s6, s7, s8, s9, s10⟩ := st5'
        have m5 := s8.mc hm (by decide)
        refine xr_iload dX6_lookAtParts_76 rfl ?_
        refine xr_aload1 dX6_lookAtParts_78 rfl ?_
        refine xr_getIv dX6_lookAtParts_79 fk_6_131 lay_21 rfl m5.1.2.1 ?_
        refine xr_icmp_ge 168 dX6_lookAtParts_82 (by decide) (fun hcy => ?_) (fun hcy => ?_)
        · have : y = mK M := by have := nle hcy; omega
          subst this
          refine xr_iinc dX6_lookAtParts_168 rfl ii_1 (Nat.le_of_ble_eq_true rfl) ?_
          show xT _ _ _ 171 [_, _, _, _, _, _, _, _, _] _ _ _
          refine xr_goto 66 dX6_lookAtParts_171 (by decide) ?_
          rw [k_1, nI_add]
          refine IHx I5 J5 hs5 e5 _ _ ?_ d5
          rw [Nat.add_mul, Nat.one_mul]
          exact st5
        have hyl := nlt hcy
        have IHy := IHy hyl
        have hpd : x * mK M + y < mK M ^ d := by omega
        have hc1 := candP_step M d w t (x * mK M + y)
        rw [hmg, hu] at hc1
        have hc1l : (candP M d w t (x * mK M + y)).length < 256 := by
          rw [hcl t _ (by omega) (by omega)]
          have h1 : (t + 1) * mK M ^ d ≤ 16 * 16 := Nat.mul_le_mul (by omega) hKd
          rw [Nat.add_mul, Nat.one_mul] at h1
          omega
        have K112 : ∀ I6 J6 a, cfx [72, 73] I5 J5 I6 J6 → cWd I6 J6 72 u → cWd I6 J6 73 a → wGood M a → wpart M a y = wparts M u (rOfP (mK M) d (x * mK M + y)) → xT G M_X6_lookAtParts (xMQ G (xpi fun v I' J' => ((v = 1 ∧ (∀ t (ht : t < (mMarks M).length), (wpush w (mMarks M)[t]).length ≤ 16) ∧ ∃ hs' e, lkS I J M d w hs Sn I' J' hs' e (mMarks M).length 0) ∨ (v = 0 ∧ (longP M w = true ∨ ∃ t p, t < (mMarks M).length ∧ p ≤ mK M ^ d ∧ ∃ hs2 : List (List Nat), hs2.Nodup ∧ 200 < hs2.length ∧ ∀ u ∈ hs2, wReach M (Sn ++ candP M d w t p) u) ∧ ∃ hs2, pWd I' J' 57 hs2)) ∧ cfx [56, 57, 58, 59, 60, 61, 66, 67, 71, 72, 73, 75] I J I' J' ∧ ∀ j, j ≠ 7 → I' 56 j = I 56 j)) 112 [some (.ref (G.1 56)), some (.ref (G.1 21)), some (.int (nI i)), some (.int (nI d)), some (.int (nI fi)), some (.int (nI t)), some (.int (nI x)), some (.int (nI y)), z8] [] I6 J6 := by
          intro I6 J6 a f6 d6 da hag hae
          have st6 := st5.cg f6
          have m6 := f6.mc m5 (by decide)
          refine xr_aload0 dX6_lookAtParts_112 rfl ?_
          refine xr_getR dX6_lookAtParts_113 fk_6_25 lay_56 rfl ?_
          refine xr_aload1 dX6_lookAtParts_116 rfl ?_
          refine xr_iload dX6_lookAtParts_117 rfl ?_
          refine xr_cVi [_, _] dX6_lookAtParts_119 (xcv_of cf_X7_descend ml_6_138 (by decide)) rfl lay_73 rfl rfl rfl (Nat.le_of_ble_eq_true rfl) (c7_descend m6 hwh (show isW 73 from rfl) da hag.1 hag.2.2 hyl) (fun v I7 J7 hc7 => ?_)
          obtain ⟨rfl, d7, f7⟩ := hc7
          rw [hae] at d7
          have hpg := wpart_good hM hwh hag.2.2 hyl
          rw [hae] at hpg
          have hqg : wGood M (wparts M u (rOfP (mK M) d (x * mK M + y))) := ⟨by have := hag.1; omega, hpg.2.1, hpg.1⟩
          generalize hqe : wparts M u (rOfP (mK M) d (x * mK M + y)) = q at *
          have st7 := st6.cg (f7.mono (by decide))
          have du := f7.wd d6 (by decide)
          have m7 := f7.mc m6 (by decide)
          obtain ⟨r1, r2, r3, r4, r5, r6, r7, r8, r9, r10⟩ := st7
          refine xr_pop dX6_lookAtParts_122 rfl ?_
          refine xr_aload0 dX6_lookAtParts_123 rfl ?_
          refine xr_getR dX6_lookAtParts_124 fk_6_12 lay_56 rfl ?_
          refine xr_aload1 dX6_lookAtParts_127 rfl ?_
          refine xr_aload0 dX6_lookAtParts_128 rfl ?_
          refine xr_getR dX6_lookAtParts_129 fk_6_25 lay_56 rfl ?_
          refine xr_cVi [_, _] dX6_lookAtParts_132 (xcv_of cf_X4_take ml_6_142 (by decide)) rfl lay_57 rfl rfl rfl (Nat.le_of_ble_eq_true rfl) (c4_take m7 hwh isPl_57 (by decide) r3 r4 r5 (show isW 73 from rfl) d7 hqg) (fun v I8 J8 hc8 => ?_)
          obtain ⟨hv, f8, o8⟩ := hc8
          have hcf : cfx [56, 57, 58, 59, 60, 61, 66, 67, 71, 72, 73, 75] I J I8 J8 := r8.tr (f8.mono (by decide))
          have h56 : ∀ j, j ≠ 7 → I8 56 j = I 56 j := fun j hj => by rw [(f8 56 (by decide)).1]; exact r9 j hj
          rcases hv with ⟨j8, hs8, rfl, hj8, ⟨e8, he8⟩, t8, w8, g8, p8, k8⟩ | ⟨rfl, ⟨hs8, hn8, hl8, t8⟩, hw8⟩
          rotate_left
          · skip
            refine xr_istore dX6_lookAtParts_135 (Nat.le_of_ble_eq_true rfl) ?_
            show xT _ _ _ 137 [_, _, _, _, _, _, _, _, _] _ _ _
            refine xr_iload dX6_lookAtParts_137 rfl ?_
            refine xr_if_ge 144 dX6_lookAtParts_139 (by decide) (fun hz9 => ?_) (fun hz9 => ?_)
            · exact absurd hz9 (by decide)
            refine xr_ic0 dX6_lookAtParts_142 ?_
            refine xr_zret dX6_lookAtParts_143 rfl rfl (by simp) ⟨Or.inr ⟨rfl, Or.inr ⟨t, x * mK M + y + 1, htl, by omega, hs8, hn8, hl8, fun v hv => ?_⟩, hw8⟩, hcf, h56⟩
            rw [hc1, ← List.append_assoc]
            exact t8 (wReach M (Sn ++ candP M d w t (x * mK M + y) ++ [q])) (fun a ha => ((r2.2 a).mp ha).mono (fun b hb => List.mem_append_left _ hb)) (wReach.self (List.mem_append_right _ (List.mem_singleton.mpr rfl))) (fun a x ha hx => ha.part hx) v hv
          have hj8l := (List.getElem?_eq_some_iff.mp hj8).1
          have hl8 := w8.len.1
          have hl7 : I8 56 7 = nI (candP M d w t (x * mK M + y)).length := by rw [(f8 56 (by decide)).1]; exact r7.1
          refine xr_istore dX6_lookAtParts_135 (Nat.le_of_ble_eq_true rfl) ?_
          show xT _ _ _ 137 [_, _, _, _, _, _, _, _, _] _ _ _
          refine xr_iload dX6_lookAtParts_137 rfl ?_
          refine xr_if_ge 144 dX6_lookAtParts_139 (by decide) (fun hz9 => ?_) (fun hz9 => ?_)
          rotate_left
          · exact absurd (nI_pos' (by omega)) hz9
          refine xr_aload0 dX6_lookAtParts_144 rfl ?_
          refine xr_getR dX6_lookAtParts_145 fk_6_32 lay_56 rfl ?_
          refine xr_aload0 dX6_lookAtParts_148 rfl ?_
          refine xr_dup dX6_lookAtParts_149 rfl ?_
          refine xr_getIv dX6_lookAtParts_150 fk_6_42 lay_56 rfl hl7 ?_
          refine xr_dup_x1 dX6_lookAtParts_153 rfl rfl ?_
          refine xr_ic1 dX6_lookAtParts_154 ?_
          refine xr_iadd dX6_lookAtParts_155 ?_
          show xT _ _ _ 156 _ _ _ _
          refine xr_putI dX6_lookAtParts_156 fp_6_42 lay_56 rfl ?_
          rw [k_1, nI_add]
          generalize hI9 : va_up I8 56 (upd (I8 56) 7 (nI ((candP M d w t (x * mK M + y)).length + 1))) = I9
          refine xr_iload dX6_lookAtParts_159 rfl ?_
          refine xr_iast ((candP M d w t (x * mK M + y)).length) dX6_lookAtParts_161 lay_75 rfl hc1l (by decide) ?_
          generalize hI10 : va_up I9 75 (upd (I9 75) (candP M d w t (x * mK M + y)).length (nI j8)) = I10
          refine xr_iinc dX6_lookAtParts_162 rfl ii_1 (Nat.le_of_ble_eq_true rfl) ?_
          show xT _ _ _ 165 [_, _, _, _, _, _, _, _, _] _ _ _
          refine xr_goto 76 dX6_lookAtParts_165 (by decide) ?_
          rw [k_1, nI_add]
          have eo : ∀ a, a ≠ 56 → a ≠ 75 → I10 a = I8 a := fun a h1 h2 => by rw [← hI10, va_up_ne _ _ h2, ← hI9, va_up_ne _ _ h1]
          have e56 : ∀ j, j ≠ 7 → I10 56 j = I8 56 j := fun j hj => by rw [← hI10, va_up_ne _ _ (by decide), ← hI9, up_same, upd_ne _ _ hj]
          have e75 : I10 75 = upd (I8 75) (candP M d w t (x * mK M + y)).length (nI j8) := by rw [← hI10, up_same, ← hI9, va_up_ne _ _ (by decide)]
          refine IHy I10 J8 hs8 (e5 ++ e8) _ ⟨by rw [he8, r1, List.append_assoc], ?_, w8.cg (fun a h1 h2 => ⟨eo a (by omega) (by omega), rfl⟩), g8, ⟨by rw [eo 57 (by decide) (by decide)]; exact p8.1, p8.2.1, fun k hk hkf => by rw [eo (57 + 10) (by decide) (by decide), eo (57 + 9) (by decide) (by decide)]; exact p8.2.2 k hk hkf⟩, by rw [eo 57 (by decide) (by decide)]; exact k8, ⟨?_, fun c hc => ?_⟩, ?_, fun j hj => by rw [e56 j hj]; exact h56 j hj, fun j h8 h9 => by rw [eo 57 (by decide) (by decide), o8 j h8 h9]; exact r10 j h8 h9⟩ ?_
          · rw [show x * mK M + (y + 1) = x * mK M + y + 1 by omega, hc1, ← List.append_assoc]
            exact hp_take r2 he8 (List.mem_of_getElem? hj8) t8 w8.nodup (pFo.fl p8).clo
          · rw [show x * mK M + (y + 1) = x * mK M + y + 1 by omega, hc1, List.length_append, List.length_singleton, ← hI10, va_up_ne _ _ (by decide), ← hI9, up_same, upd_same]
          · have hc : c < (candP M d w t (x * mK M + y + 1)).length := hc
            show ∃ j, I10 75 c = nI j ∧ hs8[j]? = some (candP M d w t (x * mK M + y + 1))[c]
            have hcc : c < (candP M d w t (x * mK M + y)).length + 1 := by rw [hc1, List.length_append, List.length_singleton] at hc; exact hc
            rw [e75]
            have hgc : (candP M d w t (x * mK M + y + 1))[c]? = (candP M d w t (x * mK M + y) ++ [q])[c]? := by rw [hc1]
            rcases Nat.lt_or_ge c (candP M d w t (x * mK M + y)).length with g | g
            · obtain ⟨j, h1, h2⟩ := r7.2 c g
              refine ⟨j, by rw [upd_ne _ _ (by omega), (f8 75 (by decide)).1]; exact h1, ?_⟩
              rw [List.getElem?_append_left g, List.getElem?_eq_getElem hc, List.getElem?_eq_getElem g] at hgc
              rw [Option.some.inj hgc, he8, List.getElem?_append_left (List.getElem?_eq_some_iff.mp h2).1]
              exact h2
            · have : c = (candP M d w t (x * mK M + y)).length := by omega
              subst this
              refine ⟨j8, by rw [upd_same], ?_⟩
              rw [List.getElem?_append_right (Nat.le_refl _), Nat.sub_self, List.getElem?_eq_getElem hc] at hgc
              rw [Option.some.inj hgc]
              exact hj8
          · rw [← hI10, ← hI9]
            exact (hcf.up _ (by simp)).up _ (by simp)
          · have du8 := f8.wd du (by decide)
            exact du8.cg (eo 72 (by decide) (by decide)) rfl
        refine xr_aload0 dX6_lookAtParts_85 rfl ?_
        refine xr_getR dX6_lookAtParts_86 fk_6_25 lay_56 rfl ?_
        refine xr_aload0 dX6_lookAtParts_89 rfl ?_
        refine xr_getR dX6_lookAtParts_90 fk_6_21 lay_56 rfl ?_
        refine xr_cVv [_] dX6_lookAtParts_93 (xcv_of cf_X7_copy ml_6_134 (by decide)) rfl lay_73 rfl rfl rfl (Nat.le_of_ble_eq_true rfl) (c7_copy (show isW 73 from rfl) (show isW 72 from rfl) d5) (fun I6 J6 hc6 => ?_)
        obtain ⟨d6, f6⟩ := hc6
        have du6 := f6.wd d5 (by decide)
        refine xr_iload3 dX6_lookAtParts_96 rfl ?_
        refine xr_ic1 dX6_lookAtParts_97 ?_
        rcases hd with rfl | rfl
        · skip
          refine xr_icmp_le 112 dX6_lookAtParts_98 (by decide) (fun hle => ?_) (fun hle => ?_)
          rotate_left
          · exact absurd (by decide) hle
          have hx0 : x = 0 := by have := hfe.1 rfl; omega
          refine K112 I6 J6 u (f6.mono (by decide)) du6 d6 hwp ?_
          rw [hx0, Nat.zero_mul, Nat.zero_add, rOfP1 hyl]
          rfl
        · skip
          refine xr_icmp_le 112 dX6_lookAtParts_98 (by decide) (fun hle => ?_) (fun hle => ?_)
          · exact absurd hle (by decide)
          have hxK2 : x < mK M := by have := hfe.2 rfl; omega
          have m6 := f6.mc m5 (by decide)
          refine xr_aload0 dX6_lookAtParts_101 rfl ?_
          refine xr_getR dX6_lookAtParts_102 fk_6_25 lay_56 rfl ?_
          refine xr_aload1 dX6_lookAtParts_105 rfl ?_
          refine xr_iload dX6_lookAtParts_106 rfl ?_
          refine xr_cVi [_, _] dX6_lookAtParts_108 (xcv_of cf_X7_descend ml_6_138 (by decide)) rfl lay_73 rfl rfl rfl (Nat.le_of_ble_eq_true rfl) (c7_descend m6 hwh (show isW 73 from rfl) d6 hwp.1 hwp.2.2 hxK2) (fun v I7 J7 hc7 => ?_)
          obtain ⟨rfl, d7, f7⟩ := hc7
          have hpg := wpart_good hM hwh hwp.2.2 hxK2
          refine xr_pop dX6_lookAtParts_111 rfl ?_
          refine K112 I7 J7 (wpart M u x) ((f6.tr f7).mono (by decide)) (f7.wd du6 (by decide)) d7 ⟨by have := hwp.1; omega, hpg.2.1, hpg.1⟩ ?_
          rw [rOfP2 hxK2 hyl]
          rfl
      refine xr_ic0 dX6_lookAtParts_73 ?_
      refine xr_istore dX6_lookAtParts_74 (Nat.le_of_ble_eq_true rfl) ?_
      show xT _ _ _ 76 [_, _, _, _, _, _, _, _, _] _ _ _
      exact Ly 0 (Nat.zero_le _) I4 J4 hs4 e4 _ st4 d4
    refine xr_ic0 dX6_lookAtParts_63 ?_
    refine xr_istore dX6_lookAtParts_64 (Nat.le_of_ble_eq_true rfl) ?_
    show xT _ _ _ 66 [_, _, _, _, _, _, _, _, _] _ _ _
    exact Lx 0 (Nat.zero_le _) I3 J3 hs1 e1 _ _ (by rw [Nat.zero_mul]; exact st3) d3
  have fin : ∀ z5 z6 z7 z8 : Option Value, xT G M_X6_lookAtParts (xMQ G (xpi fun v I' J' => ((v = 1 ∧ (∀ t (ht : t < (mMarks M).length), (wpush w (mMarks M)[t]).length ≤ 16) ∧ ∃ hs' e, lkS I J M d w hs Sn I' J' hs' e (mMarks M).length 0) ∨ (v = 0 ∧ (longP M w = true ∨ ∃ t p, t < (mMarks M).length ∧ p ≤ mK M ^ d ∧ ∃ hs2 : List (List Nat), hs2.Nodup ∧ 200 < hs2.length ∧ ∀ u ∈ hs2, wReach M (Sn ++ candP M d w t p) u) ∧ ∃ hs2, pWd I' J' 57 hs2)) ∧ cfx [56, 57, 58, 59, 60, 61, 66, 67, 71, 72, 73, 75] I J I' J' ∧ ∀ j, j ≠ 7 → I' 56 j = I 56 j)) 13 [some (.ref (G.1 56)), some (.ref (G.1 21)), some (.int (nI i)), some (.int (nI d)), none, z5, z6, z7, z8] [.int (nI fi)] I J := by
    intro z5 z6 z7 z8
    refine xr_istore dX6_lookAtParts_13 (Nat.le_of_ble_eq_true rfl) ?_
    show xT _ _ _ 15 [_, _, _, _, _, _, _, _, _] _ _ _
    refine xr_aload0 dX6_lookAtParts_15 rfl ?_
    refine xr_ic0 dX6_lookAtParts_16 ?_
    refine xr_putI dX6_lookAtParts_17 fp_6_42 lay_56 rfl ?_
    generalize hI1 : va_up I 56 (upd (I 56) 7 0) = I1
    refine xr_ic0 dX6_lookAtParts_20 ?_
    refine xr_istore dX6_lookAtParts_21 (Nat.le_of_ble_eq_true rfl) ?_
    show xT _ _ _ 23 [_, _, _, _, _, _, _, _, _] _ _ _
    have eo : ∀ a, a ≠ 56 → I1 a = I a := fun a h1 => by rw [← hI1, va_up_ne _ _ h1]
    refine Lt 0 (Nat.zero_le _) I1 J hs [] _ _ _ ⟨by simp, by rw [candP_0, List.append_nil]; exact hHp, h.cg (fun a h1 h2 => ⟨eo a (by omega), rfl⟩), hg, ⟨by rw [eo 57 (by decide)]; exact hf.1, hf.2.1, fun k hk hkf => by rw [eo (57 + 10) (by decide), eo (57 + 9) (by decide)]; exact hf.2.2 k hk hkf⟩, by rw [eo 57 (by decide)]; exact h8, ⟨?_, fun c hc => ?_⟩, ?_, fun j hj => ?_, fun j _ _ => by rw [eo 57 (by decide)]⟩ (fun t' _ ht' => absurd ht' (Nat.not_lt_zero _))
    · rw [candP_0, ← hI1, up_same, upd_same]; rfl
    · rw [candP_0] at hc; exact absurd hc (Nat.not_lt_zero _)
    · rw [← hI1]; exact cfx.rf.up _ (by simp)
    · rw [← hI1, up_same, upd_ne _ _ hj]
  refine x_ent (by decide) (Nat.le_of_ble_eq_true rfl) rfl ?_
  show xT _ _ _ 0 [_, _, _, _, _, _, _, _, _] _ _ _
  refine xr_iload3 dX6_lookAtParts_0 rfl ?_
  refine xr_ic1 dX6_lookAtParts_1 ?_
  rcases hd with rfl | rfl
  · skip
    refine xr_icmp_ne 9 dX6_lookAtParts_2 (by decide) (fun hne => ?_) (fun hne => ?_)
    · exact absurd rfl hne
    refine xr_ic1 dX6_lookAtParts_5 ?_
    refine xr_goto 13 dX6_lookAtParts_6 (by decide) ?_
    have := fin none none none none
    rw [hfe.1 rfl] at this
    exact this
  · skip
    refine xr_icmp_ne 9 dX6_lookAtParts_2 (by decide) (fun hne => ?_) (fun hne => ?_)
    rotate_left
    · exact absurd hne (by decide)
    refine xr_aload1 dX6_lookAtParts_9 rfl ?_
    refine xr_getIv dX6_lookAtParts_10 fk_6_131 lay_21 rfl hm.1.2.1 ?_
    have := fin none none none none
    rw [hfe.2 rfl] at this
    exact this
end C38
