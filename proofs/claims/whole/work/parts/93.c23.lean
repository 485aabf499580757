section C23
variable {G : xG} {I : xI} {J : xJ}
theorem two_neg {S : xSt} {a b : Int32} (h : ¬ 0 ≤ sp_two S a b) : sp_two S a b ≠ 0 := fun q => h (by rw [q]; decide)
theorem two_pos {S : xSt} {a b : Int32} (h : 0 ≤ sp_two S a b) : sp_two S a b = 0 := by
  unfold sp_two at h ⊢
  split at h
  · split at h
    · exact absurd h (by decide)
    · split at h
      · exact absurd h (by decide)
      · rename_i h1 h2
        rw [if_neg h1, if_neg h2]
  · exact absurd h (by decide)
theorem mem_idx {hs : List (List Nat)} {i : Nat} {w : List Nat} (h : hs[i]? = some w) : i < hs.length ∧ hs.getD i [] = w := ⟨(List.getElem?_eq_some_iff.mp h).1, getD_at h⟩
theorem c8_heap {S : xSt} (a : Int32) (hm : cMc I S.2.1) (hp : cSp I J S.2.1 S.2.2) (hq : pQ I J 41) : xCon G M_X8_heap [.ref (G.1 0), .int a] I J (xpi fun v I' J' => v = sp_heap S a ∧ pQ I' J' 41 ∧ cfx (pPl 41) I J I' J') := by
  refine x_ent (by decide) (Nat.le_of_ble_eq_true rfl) rfl ?_
  show xT _ _ _ 0 [_, _, _] _ _ _
  refine xr_aload0 dX8_heap_0 rfl ?_
  refine xr_iload1 dX8_heap_1 rfl ?_
  refine xr_iload1 dX8_heap_2 rfl ?_
  refine xr_cVi [_, _] dX8_heap_3 (xcv_of cf_X8_gather ml_8_190 (by decide)) rfl lay_0 rfl rfl rfl (Nat.le_of_ble_eq_true rfl) (c8_gather a a hm hp hq) (fun v I1 J1 hc => ?_)
  obtain ⟨rfl, h1, q1, f1⟩ := hc
  refine xr_istore2 dX8_heap_6 (Nat.le_of_ble_eq_true rfl) ?_
  show xT _ _ _ 7 [_, _, _] _ _ _
  refine xr_iload2 dX8_heap_7 rfl ?_
  refine xr_if_ge 15 dX8_heap_8 (by decide) (fun hz => ?_) (fun hz => ?_)
  rotate_left
  · skip
    refine xr_iload2 dX8_heap_11 rfl ?_
    refine xr_goto 25 dX8_heap_12 (by decide) ?_
    refine xr_iret dX8_heap_25 rfl rfl ⟨by rw [sp_heap, if_neg (two_neg hz)], q1, f1⟩
  have hz := two_pos hz
  obtain ⟨hwh, a', b', hs, ha8, hb8, rfl, eb, xa, xb, hHp, w1, g1, p1, k8, k10⟩ := h1 hz
  obtain ⟨hl, hcnt⟩ := w1.len
  refine xr_aload0 dX8_heap_15 rfl ?_
  refine xr_getR dX8_heap_16 fk_8_54 lay_0 rfl ?_
  refine xr_getR dX8_heap_19 fk_8_208 lay_41 rfl ?_
  refine xr_getIv dX8_heap_22 fk_8_212 lay_42 rfl hcnt ?_
  refine xr_iret dX8_heap_25 rfl rfl ⟨?_, q1, f1⟩
  have h3 : isHp S.2.1 [xsp S (nI a'), xsp S (nI a')] hs := by
    have : S.2.2 b' = S.2.2 a' := by rw [← xb, xa]
    rw [this] at hHp
    rw [xa]
    exact hHp
  rw [sp_heap, if_pos hz]
  congr 1
  exact h3.len (hpOf_is ⟨hs, h3, hl⟩)
theorem c8_least {S : xSt} (a : Int32) (hm : cMc I S.2.1) (hp : cSp I J S.2.1 S.2.2) (hq : pQ I J 41) : xCon G M_X8_least [.ref (G.1 0), .int a] I J (xpi fun v I' J' => v = sp_least S a ∧ pQ I' J' 41 ∧ cfx (pPl 41) I J I' J') := by
  have hM := hm.1.1
  refine x_ent (by decide) (Nat.le_of_ble_eq_true rfl) rfl ?_
  show xT _ _ _ 0 [_, _, _] _ _ _
  refine xr_aload0 dX8_least_0 rfl ?_
  refine xr_iload1 dX8_least_1 rfl ?_
  refine xr_iload1 dX8_least_2 rfl ?_
  refine xr_cVi [_, _] dX8_least_3 (xcv_of cf_X8_gather ml_8_190 (by decide)) rfl lay_0 rfl rfl rfl (Nat.le_of_ble_eq_true rfl) (c8_gather a a hm hp hq) (fun v I1 J1 hc => ?_)
  obtain ⟨rfl, h1, q1, f1⟩ := hc
  refine xr_istore2 dX8_least_6 (Nat.le_of_ble_eq_true rfl) ?_
  show xT _ _ _ 7 [_, _, _] _ _ _
  refine xr_iload2 dX8_least_7 rfl ?_
  refine xr_if_ge 13 dX8_least_8 (by decide) (fun hz => ?_) (fun hz => ?_)
  rotate_left
  · skip
    refine xr_iload2 dX8_least_11 rfl ?_
    refine xr_iret dX8_least_12 rfl rfl ⟨by rw [sp_least, if_neg (two_neg hz)], q1, f1⟩
  have hz := two_pos hz
  obtain ⟨hwh, a', b', hs, ha8, hb8, rfl, eb, xa, xb, hHp, w1, g1, p1, k8, k10⟩ := h1 hz
  obtain ⟨hl, hcnt⟩ := w1.len
  have hne : hs ≠ [] := fun q => by
    have := (hHp.2 (S.2.2 a')).mpr (wReach.self (by simp))
    rw [q] at this
    cases this
  have hpos : 0 < hs.length := List.length_pos_iff.mpr hne
  refine xr_aload0 dX8_least_13 rfl ?_
  refine xr_getR dX8_least_14 fk_8_54 lay_0 rfl ?_
  refine xr_cVv [] dX8_least_17 (xcv_of cf_X4_classify ml_8_194 (by decide)) rfl lay_41 rfl rfl rfl (Nat.le_of_ble_eq_true rfl) (c4_classify hM hwh isPl_41 w1 g1 hne k8 p1 q1.2 k10 (by decide) (fun q => by omega)) (fun I2 J2 hc => ?_)
  obtain ⟨kd, -, q2, f2, o2⟩ := hc
  obtain ⟨l, rc, hl1, hst, -, k11, -⟩ := kd
  refine xr_aload0 dX8_least_20 rfl ?_
  refine xr_getR dX8_least_21 fk_8_54 lay_0 rfl ?_
  refine xr_getIv dX8_least_24 fk_8_217 lay_41 rfl k11 ?_
  refine xr_iret dX8_least_27 rfl rfl ⟨?_, ⟨?_, q2⟩, f1.tr (f2.mono (by decide))⟩
  · rw [sp_least, if_pos hz]
    congr 1
    refine ncl_nUn (fun a ha b hb => stb_al p1.clo hst ha hb) (fun w => ?_)
    rw [hHp.2 w, xa]
    have : S.2.2 b' = S.2.2 a' := by rw [← xb, xa]
    rw [this]
  · obtain ⟨⟨ks, hks⟩, -⟩ := q1
    exact ⟨ks, hks.cg (fun a h1 h2 => f2 a (by simp only [List.mem_cons, List.not_mem_nil, or_false]; omega))⟩
theorem c8_same {S : xSt} (a b : Int32) (hm : cMc I S.2.1) (hp : cSp I J S.2.1 S.2.2) (hq : pQ I J 41) : xCon G M_X8_same [.ref (G.1 0), .int a, .int b] I J (xpi fun v I' J' => v = sp_same S a b ∧ pQ I' J' 41 ∧ cfx (pPl 41) I J I' J') := by
  have hM := hm.1.1
  refine x_ent (by decide) (Nat.le_of_ble_eq_true rfl) rfl ?_
  show xT _ _ _ 0 [_, _, _, _] _ _ _
  refine xr_aload0 dX8_same_0 rfl ?_
  refine xr_iload1 dX8_same_1 rfl ?_
  refine xr_iload2 dX8_same_2 rfl ?_
  refine xr_cVi [_, _] dX8_same_3 (xcv_of cf_X8_gather ml_8_190 (by decide)) rfl lay_0 rfl rfl rfl (Nat.le_of_ble_eq_true rfl) (c8_gather a b hm hp hq) (fun v I1 J1 hc => ?_)
  obtain ⟨rfl, h1, q1, f1⟩ := hc
  refine xr_istore3 dX8_same_6 (Nat.le_of_ble_eq_true rfl) ?_
  show xT _ _ _ 7 [_, _, _, _] _ _ _
  refine xr_iload3 dX8_same_7 rfl ?_
  refine xr_if_ge 13 dX8_same_8 (by decide) (fun hz => ?_) (fun hz => ?_)
  rotate_left
  · skip
    refine xr_iload3 dX8_same_11 rfl ?_
    refine xr_iret dX8_same_12 rfl rfl ⟨by rw [sp_same, if_neg (two_neg hz)], q1, f1⟩
  have hz := two_pos hz
  obtain ⟨hwh, a', b', hs, ha8, hb8, rfl, rfl, xa, xb, hHp, w1, g1, p1, k8, k10⟩ := h1 hz
  obtain ⟨hl, hcnt⟩ := w1.len
  have hma := (hHp.2 (S.2.2 a')).mpr (wReach.self (by simp))
  have hmb := (hHp.2 (S.2.2 b')).mpr (wReach.self (by simp))
  have hne : hs ≠ [] := fun q => by rw [q] at hma; cases hma
  have hpos : 0 < hs.length := List.length_pos_iff.mpr hne
  have hWa := isW_s a' ha8
  have hWb := isW_s b' hb8
  refine xr_aload0 dX8_same_13 rfl ?_
  refine xr_getR dX8_same_14 fk_8_54 lay_0 rfl ?_
  refine xr_cVv [] dX8_same_17 (xcv_of cf_X4_classify ml_8_194 (by decide)) rfl lay_41 rfl rfl rfl (Nat.le_of_ble_eq_true rfl) (c4_classify hM hwh isPl_41 w1 g1 hne k8 p1 q1.2 k10 (by decide) (fun q => by omega)) (fun I2 J2 hc => ?_)
  obtain ⟨kd, -, q2, f2, o2⟩ := hc
  have w2 : pWd I2 J2 41 hs := w1.cg (fun a h1 h2 => f2 a (by simp only [List.mem_cons, List.not_mem_nil, or_false]; omega))
  have s2 : cSp I2 J2 S.2.1 S.2.2 := f2.sp (f1.sp hp (by decide)) (by decide)
  obtain ⟨awd, a16, ar, ao⟩ := sp_w s2 hM ha8
  obtain ⟨bwd, b16, br, bo⟩ := sp_w s2 hM hb8
  obtain ⟨l, rc, hl1, hst, ⟨c, hc⟩, k11, -⟩ := kd
  refine xr_aload0 dX8_same_20 rfl ?_
  refine xr_getR dX8_same_21 fk_8_54 lay_0 rfl ?_
  refine xr_aload0 dX8_same_24 rfl ?_
  refine xr_getR dX8_same_25 fk_8_54 lay_0 rfl ?_
  refine xr_aload0 dX8_same_28 rfl ?_
  refine xr_getR dX8_same_29 fk_8_17 lay_0 rfl ?_
  refine xr_iload1 dX8_same_32 rfl ?_
  refine xr_aald4 a' dX8_same_33 lay_2 rfl ha8 (by decide) ?_
  show xT _ _ _ 34 _ _ _ _
  refine xr_cVi [_] dX8_same_34 (xcv_of cf_X4_indexOf ml_8_197 (by decide)) rfl lay_41 rfl rfl rfl (Nat.le_of_ble_eq_true rfl) (c4_indexOf isPl_41 w2 hWa awd a16 hma) (fun v I3 J3 hc3 => ?_)
  obtain ⟨⟨i, hi, rfl⟩, rfl, rfl⟩ := hc3
  refine xr_aload0 dX8_same_37 rfl ?_
  refine xr_getR dX8_same_38 fk_8_54 lay_0 rfl ?_
  refine xr_aload0 dX8_same_41 rfl ?_
  refine xr_getR dX8_same_42 fk_8_17 lay_0 rfl ?_
  refine xr_iload2 dX8_same_45 rfl ?_
  refine xr_aald4 b' dX8_same_46 lay_2 rfl hb8 (by decide) ?_
  refine xr_cVi [_] dX8_same_47 (xcv_of cf_X4_indexOf ml_8_197 (by decide)) rfl lay_41 rfl rfl rfl (Nat.le_of_ble_eq_true rfl) (c4_indexOf isPl_41 w2 hWb bwd b16 hmb) (fun v I3 J3 hc3 => ?_)
  obtain ⟨⟨j, hj, rfl⟩, rfl, rfl⟩ := hc3
  obtain ⟨hil, hie⟩ := mem_idx hi
  obtain ⟨hjl, hje⟩ := mem_idx hj
  have hcl := cnt_le (wFst S.2.1 hs (l + 1)) hs.length
  refine xr_cVi [_, _] dX8_same_50 (xcv_of cf_X4_areAlike ml_8_201 (by decide)) rfl lay_41 rfl rfl rfl (Nat.le_of_ble_eq_true rfl) (c4_areAlike isPl_41 hl (fun k hk => (hc.1 k hk).1) (fun k hk => by have := (hc.1 k hk).2; omega) hil hjl) (fun v I3 J3 hc3 => ?_)
  obtain ⟨rfl, rfl, rfl⟩ := hc3
  have hal : c i = c j ↔ wAl S.2.1 (S.2.2 a') (S.2.2 b') := by
    rw [hc.2 i j hil hjl, hie, hje]
    exact stb_al p1.clo hst hma hmb
  have hQ : pQ I2 J2 41 := ⟨⟨_, w2.1⟩, q2⟩
  have hfr : cfx (pPl 41) I J I2 J2 := f1.tr (f2.mono (by decide))
  have e : sp_same S (nI a') (nI b') = b2 (wA S.2.1 (S.2.2 a') (S.2.2 b')) := by rw [sp_same, if_pos hz, xa, xb]
  refine xr_if_eq 60 dX8_same_53 (by decide) (fun hb => ?_) (fun hb => ?_)
  · have hb := b2d hb
    refine xr_ic0 dX8_same_60 ?_
    refine xr_iret dX8_same_61 rfl rfl ⟨?_, hQ, hfr⟩
    rw [e]
    cases hqq : wA S.2.1 (S.2.2 a') (S.2.2 b') with
    | false => rfl
    | true => exact absurd (hal.mpr (wA_iff.mp hqq)) hb
  · have hb := b2d' hb
    refine xr_ic1 dX8_same_56 ?_
    refine xr_goto 61 dX8_same_57 (by decide) ?_
    refine xr_iret dX8_same_61 rfl rfl ⟨?_, hQ, hfr⟩
    rw [e, wA_iff.mpr (hal.mp hb)]
    rfl
theorem c8_apart {S : xSt} (a b : Int32) (hm : cMc I S.2.1) (hp : cSp I J S.2.1 S.2.2) (hq : pQ I J 41) : xCon G M_X8_apart [.ref (G.1 0), .int a, .int b] I J (xpi fun v I' J' => v = sp_apart S a b ∧ pQ I' J' 41 ∧ cfx (pPl 41) I J I' J') := by
  have hM := hm.1.1
  refine x_ent (by decide) (Nat.le_of_ble_eq_true rfl) rfl ?_
  show xT _ _ _ 0 [_, _, _, _] _ _ _
  refine xr_aload0 dX8_apart_0 rfl ?_
  refine xr_iload1 dX8_apart_1 rfl ?_
  refine xr_iload2 dX8_apart_2 rfl ?_
  refine xr_cVi [_, _] dX8_apart_3 (xcv_of cf_X8_gather ml_8_190 (by decide)) rfl lay_0 rfl rfl rfl (Nat.le_of_ble_eq_true rfl) (c8_gather a b hm hp hq) (fun v I1 J1 hc => ?_)
  obtain ⟨rfl, h1, q1, f1⟩ := hc
  refine xr_istore3 dX8_apart_6 (Nat.le_of_ble_eq_true rfl) ?_
  show xT _ _ _ 7 [_, _, _, _] _ _ _
  refine xr_iload3 dX8_apart_7 rfl ?_
  refine xr_if_ge 13 dX8_apart_8 (by decide) (fun hz => ?_) (fun hz => ?_)
  rotate_left
  · skip
    refine xr_iload3 dX8_apart_11 rfl ?_
    refine xr_iret dX8_apart_12 rfl rfl ⟨by rw [sp_apart, if_neg (two_neg hz)], q1, f1⟩
  have hz := two_pos hz
  obtain ⟨hwh, a', b', hs, ha8, hb8, rfl, rfl, xa, xb, hHp, w1, g1, p1, k8, k10⟩ := h1 hz
  obtain ⟨hl, hcnt⟩ := w1.len
  have hma := (hHp.2 (S.2.2 a')).mpr (wReach.self (by simp))
  have hmb := (hHp.2 (S.2.2 b')).mpr (wReach.self (by simp))
  have hne : hs ≠ [] := fun q => by rw [q] at hma; cases hma
  have hpos : 0 < hs.length := List.length_pos_iff.mpr hne
  have hWa := isW_s a' ha8
  have hWb := isW_s b' hb8
  refine xr_aload0 dX8_apart_13 rfl ?_
  refine xr_getR dX8_apart_14 fk_8_54 lay_0 rfl ?_
  refine xr_cVv [] dX8_apart_17 (xcv_of cf_X4_classify ml_8_194 (by decide)) rfl lay_41 rfl rfl rfl (Nat.le_of_ble_eq_true rfl) (c4_classify hM hwh isPl_41 w1 g1 hne k8 p1 q1.2 k10 (by decide) (fun q => by omega)) (fun I2 J2 hc => ?_)
  obtain ⟨kd, -, q2, f2, o2⟩ := hc
  have w2 : pWd I2 J2 41 hs := w1.cg (fun a h1 h2 => f2 a (by simp only [List.mem_cons, List.not_mem_nil, or_false]; omega))
  have s2 : cSp I2 J2 S.2.1 S.2.2 := f2.sp (f1.sp hp (by decide)) (by decide)
  have p2 : pFl I2 S.2.1 41 hs := fun k hk => by rw [(f2 (41 + 10) (by simp only [List.mem_cons, List.not_mem_nil, or_false]; omega)).1, (f2 (41 + 9) (by simp only [List.mem_cons, List.not_mem_nil, or_false]; omega)).1]; exact p1 k hk
  obtain ⟨awd, a16, ar, ao⟩ := sp_w s2 hM ha8
  obtain ⟨bwd, b16, br, bo⟩ := sp_w s2 hM hb8
  refine xr_aload0 dX8_apart_20 rfl ?_
  refine xr_getR dX8_apart_21 fk_8_54 lay_0 rfl ?_
  refine xr_aload0 dX8_apart_24 rfl ?_
  refine xr_getR dX8_apart_25 fk_8_54 lay_0 rfl ?_
  refine xr_aload0 dX8_apart_28 rfl ?_
  refine xr_getR dX8_apart_29 fk_8_17 lay_0 rfl ?_
  refine xr_iload1 dX8_apart_32 rfl ?_
  refine xr_aald4 a' dX8_apart_33 lay_2 rfl ha8 (by decide) ?_
  show xT _ _ _ 34 _ _ _ _
  refine xr_cVi [_] dX8_apart_34 (xcv_of cf_X4_indexOf ml_8_197 (by decide)) rfl lay_41 rfl rfl rfl (Nat.le_of_ble_eq_true rfl) (c4_indexOf isPl_41 w2 hWa awd a16 hma) (fun v I3 J3 hc3 => ?_)
  obtain ⟨⟨i, hi, rfl⟩, rfl, rfl⟩ := hc3
  refine xr_aload0 dX8_apart_37 rfl ?_
  refine xr_getR dX8_apart_38 fk_8_54 lay_0 rfl ?_
  refine xr_aload0 dX8_apart_41 rfl ?_
  refine xr_getR dX8_apart_42 fk_8_17 lay_0 rfl ?_
  refine xr_iload2 dX8_apart_45 rfl ?_
  refine xr_aald4 b' dX8_apart_46 lay_2 rfl hb8 (by decide) ?_
  refine xr_cVi [_] dX8_apart_47 (xcv_of cf_X4_indexOf ml_8_197 (by decide)) rfl lay_41 rfl rfl rfl (Nat.le_of_ble_eq_true rfl) (c4_indexOf isPl_41 w2 hWb bwd b16 hmb) (fun v I3 J3 hc3 => ?_)
  obtain ⟨⟨j, hj, rfl⟩, rfl, rfl⟩ := hc3
  obtain ⟨hil, hie⟩ := mem_idx hi
  obtain ⟨hjl, hje⟩ := mem_idx hj
  refine xr_cVi [_, _] dX8_apart_50 (xcv_of cf_X4_partingRow ml_8_205 (by decide)) rfl lay_41 rfl rfl rfl (Nat.le_of_ble_eq_true rfl) (c4_partingRow hM hwh isPl_41 hl g1 (by rw [o2 8 (by decide) (by decide) (by decide)]; exact k8) p2 kd hil hjl) (fun v I3 J3 hc3 => ?_)
  obtain ⟨rfl, rfl, rfl⟩ := hc3
  refine xr_iret dX8_apart_53 rfl rfl ⟨?_, ⟨⟨_, w2.1⟩, q2⟩, f1.tr (f2.mono (by decide))⟩
  rw [hie, hje, sp_apart, if_pos hz, xa, xb]
  unfold apV
  cases apN S.2.1 (S.2.2 a') (S.2.2 b') 14 0 <;> rfl
end C23
