section C32
variable {G : xG} {I : xI} {J : xJ}
theorem isKT_36 : isKT 36 3000 4096 := ⟨rfl, rfl, rfl, rfl⟩
theorem kZ_g : kZ 3000 4096 12 := ⟨rfl, by decide, by decide⟩
def gkk (g : List Nat) : kK := (gKey g, 0)
theorem gP.ok {N : Nat} {g : List Nat} (h : gP N g) : gOk N g := ⟨h.1, h.2.1⟩
theorem gkk_inj {N : Nat} (hN : N ≤ 16) {a b : List Nat} (ha : gP N a) (hb : gP N b) (h : gkk a = gkk b) : a = b := gKey_inj hN ha.ok hb.ok (congrArg Prod.fst h)
def cGr (I : xI) (J : xJ) (N : Nat) (ms gm : List (List Nat)) : Prop := kT I J 36 3000 4096 (ms.map gkk) ∧ (∀ a ∈ ms, gP N a) ∧ I 35 3 = nI N ∧ I 35 2 = nI gm.length ∧ gm.length ≤ 8 ∧ ∀ j (h : j < gm.length), J 40 j = gKey gm[j]
theorem cGr.cg {I I' : xI} {J J' : xJ} {N : Nat} {ms gm : List (List Nat)} (h : cGr I J N ms gm) (e : ∀ a, 35 ≤ a → a ≤ 40 → I' a = I a ∧ J' a = J a) : cGr I' J' N ms gm := by
  obtain ⟨h1, h2, h3, h4, h5, h6⟩ := h
  refine ⟨h1.cg (fun a q1 q2 => e a (by omega) (by omega)), h2, ?_, ?_, h5, ?_⟩
  · rw [(e 35 (by decide) (by decide)).1]; exact h3
  · rw [(e 35 (by decide) (by decide)).1]; exact h4
  · rw [(e 40 (by decide) (by decide)).2]; exact h6
theorem cGr.len {N : Nat} {ms gm : List (List Nat)} (h : cGr I J N ms gm) : ms.length ≤ 3000 ∧ I 36 3 = nI ms.length ∧ ∀ i (hi : i < ms.length), J 37 i = gKey ms[i] := by
  obtain ⟨⟨st, V, h1⟩, -⟩ := h
  obtain ⟨q1, q2, -, -, -, q6, -⟩ := h1
  rw [List.length_map] at q1 q2
  refine ⟨q2, q1, fun i hi => ?_⟩
  have := (q6 i (by rw [List.length_map]; exact hi)).1
  rw [List.getElem_map] at this
  exact this
theorem cGr.nodup {N : Nat} {ms gm : List (List Nat)} (h : cGr I J N ms gm) : ms.Nodup := by
  obtain ⟨⟨st, V, h⟩, -⟩ := h
  exact (List.pairwise_map.mp h.2.2.2.2.2.2.2.1).imp (fun hne e => hne (by rw [e]))
theorem cgr_find {N : Nat} (hN : N ≤ 16) {ms gm : List (List Nat)} (h : cGr I J N ms gm) {g : List Nat} (hg : gP N g) : xCon G M_X0_find [.ref (G.1 36), .long (gKey g), .int 0] I J (xpi fun v I' J' => ((g ∈ ms ∧ 0 ≤ v) ∨ (g ∉ ms ∧ v = -1)) ∧ I = I' ∧ J = J') := by
  have hl := h.len.1
  refine (c0_find isKT_36 kZ_g h.1 (gKey g) 0).mono (fun r I' J' hq => ?_)
  obtain ⟨v, rfl, hq, hI, hJ⟩ := hq
  refine ⟨v, rfl, ?_, hI, hJ⟩
  rcases hq with ⟨i, e, hv⟩ | ⟨hn, hv⟩
  · rw [List.getElem?_map] at e
    obtain ⟨a, ha, e2⟩ := Option.map_eq_some_iff.mp e
    have hi := (List.getElem?_eq_some_iff.mp ha).1
    have hm := List.mem_of_getElem? ha
    rw [gkk_inj hN (h.2.1 a hm) hg e2] at hm
    exact Or.inl ⟨hm, by rw [hv]; exact nI_pos' (by omega)⟩
  · exact Or.inr ⟨fun q => hn (List.mem_map_of_mem q), hv⟩
theorem cgr_add {N : Nat} (hN : N ≤ 16) {ms gm : List (List Nat)} (h : cGr I J N ms gm) {g : List Nat} (hg : gP N g) (hn : g ∉ ms) (hl : ms.length < 3000) : xCon G M_X0_add [.ref (G.1 36), .long (gKey g), .int 0] I J (xpi fun v I' J' => cGr I' J' N (ms ++ [g]) gm ∧ cfx [36, 37, 38, 39] I J I' J') := by
  refine (c0_add isKT_36 kZ_g h.1 (gKey g) 0).mono (fun r I' J' hq => ?_)
  obtain ⟨v, rfl, hq⟩ := hq
  refine ⟨v, rfl, ?_⟩
  rw [List.length_map] at hq
  rcases hq with ⟨i, e, -⟩ | ⟨-, hl2, -⟩ | ⟨-, -, -, hk, f⟩
  · rw [List.getElem?_map] at e
    obtain ⟨a, ha, e2⟩ := Option.map_eq_some_iff.mp e
    have hm := List.mem_of_getElem? ha
    rw [gkk_inj hN (h.2.1 a hm) hg e2] at hm
    exact absurd hm hn
  · omega
  · obtain ⟨-, h2, h3, h4, h5, h6⟩ := h
    refine ⟨⟨by rw [List.map_append]; exact hk, fun a ha => ?_, by rw [(f 35 (by decide)).1]; exact h3, by rw [(f 35 (by decide)).1]; exact h4, h5, by rw [(f 40 (by decide)).2]; exact h6⟩, f⟩
    rcases List.mem_append.mp ha with q | q
    · exact h2 a q
    · rw [List.mem_singleton.mp q]; exact hg
theorem l_and15' (x : Int64) : x &&& 15 = (nI (uN x % 16)).toInt64 := by
  apply uN_inj
  rw [uN_and, uN_nI (by omega)]
  show uN x &&& 15 = _
  rw [show 15 = 2 ^ 4 - 1 from rfl, Nat.and_two_pow_sub_one_eq_mod]
theorem c1_behind {N : Nat} (hN : N ≤ 16) (h3 : I 35 3 = nI N) {a b : List Nat} (ha : gP N a) (hb : gP N b) : xCon G M_X1_behind [.ref (G.1 35), .long (gKey a), .long (gKey b)] I J (xpl fun v I' J' => v = gKey (gmul a b) ∧ I = I' ∧ J = J') := by
  have hda := ha.ok.d16 hN
  have hdb := hb.ok.d16 hN
  have hla := ha.1
  have hlb := hb.1
  have hab := ha.mul hb
  have hdab := hab.ok.d16 hN
  have hlab := hab.1
  have L : ∀ i, i ≤ N → ∀ z8 : Option Value, xT G M_X1_behind (xMQ G (xpl fun v I' J' => v = gKey (gmul a b) ∧ I = I' ∧ J = J')) 6 [some (.ref (G.1 35)), some (.long (gKey a)), none, some (.long (gKey b)), none, some (.long (gKey ((gmul a b).take i))), none, some (.int (nI i)), z8] [] I J := by
    refine x_for (fun i hi IH z8 => ?_)
    refine xr_iload dX1_behind_6 rfl ?_
    refine xr_aload0 dX1_behind_8 rfl ?_
    refine xr_getIv dX1_behind_9 fk_1_28 lay_35 rfl h3 ?_
    refine xr_icmp_ge 53 dX1_behind_12 (by decide) (fun hc => ?_) (fun hc => ?_)
    · have : i = N := by have := nle hc; omega
      refine xr_lload dX1_behind_53 rfl ?_
      refine xr_lret dX1_behind_55 rfl rfl ⟨by rw [List.take_of_length_le (by omega)], rfl, rfl⟩
    have hil := nlt hc
    have IH := IH hil
    have hai : i < a.length := by omega
    have ham := hda _ (List.getElem_mem hai)
    have haN : a[i] < N := ha.2.1 _ (List.getElem_mem hai)
    have hbi : a[i] < b.length := by omega
    have hd1 : ((gKey a).toUInt64 >>> ((nI 4 * nI i).toInt64.toUInt64 &&& Int64.toUInt64 63)).toInt64.toInt32 &&& 15 = nI a[i] := by
      rw [i32_and, pk_mul]
      congr 1
      exact key_get hda (by omega) hai
    have hd2 : ((gKey b).toUInt64 >>> ((nI 4 * nI a[i]).toInt64.toUInt64 &&& Int64.toUInt64 63)).toInt64 &&& 15 = (nI b[a[i]]).toInt64 := by
      rw [l_and15', pk_mul]
      congr 2
      exact key_get hdb (by omega) hbi
    have hil2 : i < (gmul a b).length := by omega
    have hgi : (gmul a b)[i] = b[a[i]] := by
      have := gmul_at (b := b) hai
      rw [gD hil2, gD hai, gD hbi] at this
      exact this
    have hpush : gKey ((gmul a b).take i) ||| ((nI b[a[i]]).toInt64 <<< ((nI 4 * nI i).toInt64 &&& 63)) = gKey ((gmul a b).take (i + 1)) := by
      have h1 : d16 ((gmul a b).take i) := fun x hx => hdab x (List.mem_of_mem_take hx)
      have h2 : ((gmul a b).take i).length = i := by rw [List.length_take]; omega
      have h4 := key_push h1 (by omega) (x := b[a[i]]) (hdb _ (List.getElem_mem hbi))
      rw [h2] at h4
      rw [pk_mul]
      refine h4.trans ?_
      rw [List.take_succ_eq_append_getElem hil2, hgi]
      rfl
    refine xr_lload1 dX1_behind_15 rfl ?_
    refine xr_ic4 dX1_behind_16 ?_
    refine xr_iload dX1_behind_17 rfl ?_
    refine xr_imul dX1_behind_19 ?_
    refine xr_lushr dX1_behind_20 ?_
    refine xr_l2i dX1_behind_21 ?_
    refine xr_bip bi_15 dX1_behind_22 ?_
    refine xr_iand dX1_behind_24 ?_
    show xT _ _ _ 25 _ _ _ _
    rw [k_4, hd1]
    refine xr_istore dX1_behind_25 (Nat.le_of_ble_eq_true rfl) ?_
    show xT _ _ _ 27 [_, _, _, _, _, _, _, _, _] _ _ _
    refine xr_lload dX1_behind_27 rfl ?_
    refine xr_lload3 dX1_behind_29 rfl ?_
    refine xr_ic4 dX1_behind_30 ?_
    refine xr_iload dX1_behind_31 rfl ?_
    refine xr_imul dX1_behind_33 ?_
    refine xr_lushr dX1_behind_34 ?_
    refine xr_ldc2 cs_1_61 dX1_behind_35 ?_
    show xT _ _ _ 38 _ _ _ _
    refine xr_land dX1_behind_38 ?_
    rw [k_4, hd2]
    refine xr_ic4 dX1_behind_39 ?_
    refine xr_iload dX1_behind_40 rfl ?_
    refine xr_imul dX1_behind_42 ?_
    refine xr_lshl dX1_behind_43 ?_
    refine xr_lor dX1_behind_44 ?_
    rw [k_4, hpush]
    refine xr_lstore dX1_behind_45 (Nat.le_of_ble_eq_true rfl) ?_
    show xT _ _ _ 47 [_, _, _, _, _, _, _, _, _] _ _ _
    refine xr_iinc dX1_behind_47 rfl ii_1 (Nat.le_of_ble_eq_true rfl) ?_
    show xT _ _ _ 50 [_, _, _, _, _, _, _, _, _] _ _ _
    refine xr_goto 6 dX1_behind_50 (by decide) ?_
    rw [k_1, nI_add]
    exact IH _
  refine x_ent (by decide) (Nat.le_of_ble_eq_true rfl) rfl ?_
  show xT _ _ _ 0 [_, _, _, _, _, _, _, _, _] _ _ _
  refine xr_lc0 dX1_behind_0 ?_
  refine xr_lstore dX1_behind_1 (Nat.le_of_ble_eq_true rfl) ?_
  show xT _ _ _ 3 [_, _, _, _, _, _, _, _, _] _ _ _
  refine xr_ic0 dX1_behind_3 ?_
  refine xr_istore dX1_behind_4 (Nat.le_of_ble_eq_true rfl) ?_
  show xT _ _ _ 6 [_, _, _, _, _, _, _, _, _] _ _ _
  exact L 0 (Nat.zero_le _) _
theorem c1_begin {N : Nat} (hN : N ≤ 16) {ks : List kK} (h : kT I J 36 3000 4096 ks) : xCon G M_X1_begin [.ref (G.1 35), .int (nI N)] I J (xpv fun I' J' => cGr I' J' N [List.range N] [] ∧ cfx [35, 36, 37, 38, 39] I J I' J') := by
  refine x_ent (by decide) (Nat.le_of_ble_eq_true rfl) rfl ?_
  show xT _ _ _ 0 [_, _, _, _, _] _ _ _
  refine xr_aload0 dX1_begin_0 rfl ?_
  refine xr_iload1 dX1_begin_1 rfl ?_
  refine xr_putI dX1_begin_2 fp_1_28 lay_35 rfl ?_
  generalize hI1 : va_up I 35 (upd (I 35) 3 (nI N)) = I1
  refine xr_aload0 dX1_begin_5 rfl ?_
  refine xr_ic0 dX1_begin_6 ?_
  refine xr_putI dX1_begin_7 fp_1_24 lay_35 rfl ?_
  generalize hI2 : va_up I1 35 (upd (I1 35) 2 0) = I2
  have e2 : ∀ a, a ≠ 35 → I2 a = I a := fun a ha => by rw [← hI2, va_up_ne _ _ ha, ← hI1, va_up_ne _ _ ha]
  have k3 : I2 35 3 = nI N := by rw [← hI2, up_same, upd_ne _ _ (by decide), ← hI1, up_same, upd_same]
  have k2 : I2 35 2 = nI 0 := by rw [← hI2, up_same, upd_same]; rfl
  refine xr_aload0 dX1_begin_10 rfl ?_
  refine xr_getR dX1_begin_11 fk_1_14 lay_35 rfl ?_
  refine xr_cVv [] dX1_begin_14 (xcv_of cf_X0_clear ml_1_31 (by decide)) rfl lay_36 rfl rfl rfl (Nat.le_of_ble_eq_true rfl) (c0_clear isKT_36 kZ_g (h.cg (fun a h1 h2 => ⟨e2 a (by omega), rfl⟩) : kT I2 J 36 3000 4096 ks)) (fun I3 J3 hc => ?_)
  obtain ⟨k1, f1⟩ := hc
  have c3 : cGr I3 J3 N [] [] := ⟨k1, (fun a ha => by cases ha), by rw [(f1 35 (by decide)).1]; exact k3, by rw [(f1 35 (by decide)).1]; exact k2, by decide, fun j hj => absurd hj (Nat.not_lt_zero _)⟩
  have f03 : cfx [35, 36, 37, 38, 39] I J I3 J3 := by
    rw [← hI2, ← hI1] at f1
    exact ((cfx.rf.up _ (by simp)).up _ (by simp)).tr (f1.mono (by simp))
  have L : ∀ p, p ≤ N → xT G M_X1_begin (xMQ G (xpv fun I' J' => cGr I' J' N [List.range N] [] ∧ cfx [35, 36, 37, 38, 39] I J I' J')) 22 [some (.ref (G.1 35)), some (.int (nI N)), some (.long (gKey (List.range p))), none, some (.int (nI p))] [] I3 J3 := by
    refine x_for (fun p hp IH => ?_)
    refine xr_iload dX1_begin_22 rfl ?_
    refine xr_aload0 dX1_begin_24 rfl ?_
    refine xr_getIv dX1_begin_25 fk_1_28 lay_35 rfl c3.2.2.1 ?_
    refine xr_icmp_ge 48 dX1_begin_28 (by decide) (fun hc => ?_) (fun hc => ?_)
    · have : p = N := by have := nle hc; omega
      subst this
      refine xr_aload0 dX1_begin_48 rfl ?_
      refine xr_getR dX1_begin_49 fk_1_14 lay_35 rfl ?_
      refine xr_lload2 dX1_begin_52 rfl ?_
      refine xr_ic0 dX1_begin_53 ?_
      refine xr_cVi [_, _] dX1_begin_54 (xcv_of cf_X0_add ml_1_34 (by decide)) rfl lay_36 rfl rfl rfl (Nat.le_of_ble_eq_true rfl) (cgr_add hN c3 (gP.one p) (by simp) (by decide)) (fun v I4 J4 hc4 => ?_)
      obtain ⟨c4, f4⟩ := hc4
      refine xr_pop dX1_begin_57 rfl ?_
      refine xr_vret dX1_begin_58 rfl rfl ⟨c4, f03.tr (f4.mono (by simp))⟩
    have hpl := nlt hc
    have hpush : gKey (List.range p) ||| ((nI p).toInt64 <<< ((nI 4 * nI p).toInt64 &&& 63)) = gKey (List.range (p + 1)) := by
      have h3 := key_push (l := List.range p) (fun x hx => by have := List.mem_range.mp hx; omega) (by rw [List.length_range]; omega) (x := p) (by omega)
      rw [List.length_range] at h3
      rw [pk_mul, List.range_succ]
      exact h3
    refine xr_lload2 dX1_begin_31 rfl ?_
    refine xr_iload dX1_begin_32 rfl ?_
    refine xr_i2l dX1_begin_34 ?_
    refine xr_ic4 dX1_begin_35 ?_
    refine xr_iload dX1_begin_36 rfl ?_
    refine xr_imul dX1_begin_38 ?_
    refine xr_lshl dX1_begin_39 ?_
    refine xr_lor dX1_begin_40 ?_
    show xT _ _ _ 41 _ _ _ _
    rw [k_4, hpush]
    refine xr_lstore2 dX1_begin_41 (Nat.le_of_ble_eq_true rfl) ?_
    show xT _ _ _ 42 [_, _, _, _, _] _ _ _
    refine xr_iinc dX1_begin_42 rfl ii_1 (Nat.le_of_ble_eq_true rfl) ?_
    show xT _ _ _ 45 [_, _, _, _, _] _ _ _
    refine xr_goto 22 dX1_begin_45 (by decide) ?_
    rw [k_1, nI_add]
    exact IH hpl
  refine xr_lc0 dX1_begin_17 ?_
  refine xr_lstore2 dX1_begin_18 (Nat.le_of_ble_eq_true rfl) ?_
  show xT _ _ _ 19 [_, _, _, _, _] _ _ _
  refine xr_ic0 dX1_begin_19 ?_
  refine xr_istore dX1_begin_20 (Nat.le_of_ble_eq_true rfl) ?_
  show xT _ _ _ 22 [_, _, _, _, _] _ _ _
  exact L 0 (Nat.zero_le _)
theorem c1_addBlock {N : Nat} (hN : N ≤ 16) {ms gm H : List (List Nat)} (h : cGr I J N ms gm) (hHp : ∀ i (hi : i < H.length), ms[i]? = some H[i]) (hHn : H.Nodup) {x : List Nat} (hx : gP N x) (hnew : ∀ a ∈ H, gmul a x ∉ ms) : xCon G M_X1_addBlock [.ref (G.1 35), .int (nI H.length), .long (gKey x)] I J (xpi fun v I' J' => (3000 < ms.length + H.length ∧ v = 0 ∧ I = I' ∧ J = J') ∨ (ms.length + H.length ≤ 3000 ∧ v = 1 ∧ cGr I' J' N (ms ++ H.map (fun a => gmul a x)) gm ∧ cfx [36, 37, 38, 39] I J I' J')) := by
  obtain ⟨hl, hcnt, -⟩ := h.len
  have hHl : H.length ≤ ms.length := by
    rcases Nat.eq_zero_or_pos H.length with e | e
    · omega
    · have := (List.getElem?_eq_some_iff.mp (hHp (H.length - 1) (by omega))).1
      omega
  have hHm : ∀ a ∈ H, gP N a := fun a ha => by
    obtain ⟨i, hi, rfl⟩ := List.getElem_of_mem ha
    exact h.2.1 _ (List.mem_of_getElem? (hHp i hi))
  have L : ms.length + H.length ≤ 3000 → ∀ i, i ≤ H.length → ∀ I1 J1, cfx [36, 37, 38, 39] I J I1 J1 → cGr I1 J1 N (ms ++ (H.take i).map (fun a => gmul a x)) gm → xT G M_X1_addBlock (xMQ G (xpi fun v I' J' => (3000 < ms.length + H.length ∧ v = 0 ∧ I = I' ∧ J = J') ∨ (ms.length + H.length ≤ 3000 ∧ v = 1 ∧ cGr I' J' N (ms ++ H.map (fun a => gmul a x)) gm ∧ cfx [36, 37, 38, 39] I J I' J'))) 20 [some (.ref (G.1 35)), some (.int (nI H.length)), some (.long (gKey x)), none, some (.int (nI i))] [] I1 J1 := by
    intro hfit
    refine x_for (fun i hi IH I1 J1 f1 c1 => ?_)
    refine xr_iload dX1_addBlock_20 rfl ?_
    refine xr_iload1 dX1_addBlock_22 rfl ?_
    refine xr_icmp_ge 56 dX1_addBlock_23 (by decide) (fun hc => ?_) (fun hc => ?_)
    · have : i = H.length := by have := nle hc; omega
      subst this
      rw [List.take_length] at c1
      refine xr_ic1 dX1_addBlock_56 ?_
      refine xr_zret dX1_addBlock_57 rfl rfl (by simp) (Or.inr ⟨hfit, rfl, c1, f1⟩)
    have hil := nlt hc
    have IH := IH hil
    have hia := hHm _ (List.getElem_mem hil)
    have vk : J1 37 i = gKey H[i] := by
      have := c1.len.2.2 i (by rw [List.length_append]; omega)
      rw [this, List.getElem_append_left (by omega)]
      congr 1
      exact (List.getElem?_eq_some_iff.mp (hHp i hil)).2
    refine xr_aload0 dX1_addBlock_26 rfl ?_
    refine xr_getR dX1_addBlock_27 fk_1_14 lay_35 rfl ?_
    refine xr_aload0 dX1_addBlock_30 rfl ?_
    refine xr_aload0 dX1_addBlock_31 rfl ?_
    refine xr_getR dX1_addBlock_32 fk_1_14 lay_35 rfl ?_
    refine xr_getR dX1_addBlock_35 fk_1_50 lay_36 rfl ?_
    refine xr_iload dX1_addBlock_38 rfl ?_
    refine xr_laldv i dX1_addBlock_40 lay_37 rfl (by omega) (by decide) vk ?_
    show xT _ _ _ 41 _ _ _ _
    refine xr_lload2 dX1_addBlock_41 rfl ?_
    refine xr_cVl [_, _] dX1_addBlock_42 (xcv_of cf_X1_behind ml_1_53 (by decide)) rfl lay_35 rfl rfl rfl (Nat.le_of_ble_eq_true rfl) (c1_behind hN c1.2.2.1 hia hx) (fun v I2 J2 hc2 => ?_)
    obtain ⟨rfl, rfl, rfl⟩ := hc2
    refine xr_ic0 dX1_addBlock_45 ?_
    have hnw : gmul H[i] x ∉ ms ++ (H.take i).map (fun a => gmul a x) := fun q => by
      rcases List.mem_append.mp q with q | q
      · exact hnew _ (List.getElem_mem hil) q
      · obtain ⟨b, hb, e⟩ := List.mem_map.mp q
        obtain ⟨k, hk, rfl⟩ := List.getElem_of_mem hb
        rw [List.length_take] at hk
        rw [List.getElem_take] at e
        have e2 := gmul_canR (hHm _ (List.getElem_mem (show k < H.length by omega))) hia hx e
        have := (List.getElem_inj hHn).mp e2
        omega
    refine xr_cVi [_, _] dX1_addBlock_46 (xcv_of cf_X0_add ml_1_34 (by decide)) rfl isKT_36.1 rfl rfl rfl (Nat.le_of_ble_eq_true rfl) (cgr_add hN c1 (hia.mul hx) hnw (by rw [List.length_append, List.length_map, List.length_take]; omega)) (fun v I2 J2 hc2 => ?_)
    obtain ⟨c2, f2⟩ := hc2
    refine xr_pop dX1_addBlock_49 rfl ?_
    refine xr_iinc dX1_addBlock_50 rfl ii_1 (Nat.le_of_ble_eq_true rfl) ?_
    show xT _ _ _ 53 [_, _, _, _, _] _ _ _
    refine xr_goto 20 dX1_addBlock_53 (by decide) ?_
    rw [k_1, nI_add]
    refine IH I2 J2 (f1.tr f2) ?_
    rw [List.take_succ_eq_append_getElem hil, List.map_append, ← List.append_assoc]
    exact c2
  refine x_ent (by decide) (Nat.le_of_ble_eq_true rfl) rfl ?_
  show xT _ _ _ 0 [_, _, _, _, _] _ _ _
  refine xr_aload0 dX1_addBlock_0 rfl ?_
  refine xr_getR dX1_addBlock_1 fk_1_14 lay_35 rfl ?_
  refine xr_getIv dX1_addBlock_4 fk_1_41 lay_36 rfl hcnt ?_
  refine xr_iload1 dX1_addBlock_7 rfl ?_
  refine xr_iadd dX1_addBlock_8 ?_
  refine xr_sip si_3000 dX1_addBlock_9 ?_
  rw [nI_add]
  refine xr_icmp_le 17 dX1_addBlock_12 (by decide) (fun hle => ?_) (fun hle => ?_)
  rotate_left
  · have hgt : 3000 < ms.length + H.length := by
      rcases Nat.lt_or_ge 3000 (ms.length + H.length) with q | q
      · exact q
      · exact absurd ((nI_leI (b := 3000) (by omega) (by decide)).mpr q) hle
    refine xr_ic0 dX1_addBlock_15 ?_
    refine xr_zret dX1_addBlock_16 rfl rfl (by simp) (Or.inl ⟨hgt, rfl, rfl, rfl⟩)
  have hle : ms.length + H.length ≤ 3000 := (nI_leI (b := 3000) (by omega) (by decide)).mp hle
  refine xr_ic0 dX1_addBlock_17 ?_
  refine xr_istore dX1_addBlock_18 (Nat.le_of_ble_eq_true rfl) ?_
  show xT _ _ _ 20 [_, _, _, _, _] _ _ _
  exact L hle 0 (Nat.zero_le _) I J cfx.rf (by simpa using h)
end C32
