section C15
variable {G : xG} {I : xI} {J : xJ}
-- tables of keys
def isKT (t n sz : Nat) : Prop := lay t = .inl (0, [.inl (t + 1), .inl (t + 2), .inl (t + 3), .inr false, .inr false]) ∧ lay (t + 1) = .inr (1, n, fun _ => 0) ∧ lay (t + 2) = .inr (0, n, fun _ => 0) ∧ lay (t + 3) = .inr (0, sz, fun _ => 0)
abbrev kK : Type := Int64 × Int32
def kh (sz : Nat) (k : kK) : Nat := uN ((k.1 + k.2.toInt64) * -7046029254386353131) / 2 ^ 40 % sz
def kTT (V : Nat → Nat) (st s : Nat) : Nat := if V s / 4096 = st then V s % 4096 + 1 else 0
def kT0 (I : xI) (J : xJ) (t n sz : Nat) (ks : List kK) (st : Nat) (V : Nat → Nat) : Prop := I t 3 = nI ks.length ∧ ks.length ≤ n ∧ I t 4 = nI st ∧ 1 ≤ st ∧ st ≤ 500000 ∧ (∀ k (hk : k < ks.length), J (t + 1) k = ks[k].1 ∧ I (t + 2) k = ks[k].2) ∧ (∀ s, s < sz → I (t + 3) s = nI (V s) ∧ V s / 4096 ≤ st) ∧ hOk (kTT V st) sz (kh sz) ks
def kT (I : xI) (J : xJ) (t n sz : Nat) (ks : List kK) : Prop := ∃ st V, kT0 I J t n sz ks st V
theorem kT.cg {I I' : xI} {J J' : xJ} {t n sz : Nat} {ks : List kK} (h : kT I J t n sz ks) (e : ∀ a, t ≤ a → a ≤ t + 3 → I' a = I a ∧ J' a = J a) : kT I' J' t n sz ks := by
  obtain ⟨st, V, h⟩ := h
  refine ⟨st, V, ?_⟩
  unfold kT0 at h ⊢
  rw [(e t (by omega) (by omega)).1, (e (t + 1) (by omega) (by omega)).2, (e (t + 2) (by omega) (by omega)).1, (e (t + 3) (by omega) (by omega)).1]
  exact h
def kZ (n sz b : Nat) : Prop := sz = 2 ^ b ∧ b ≤ 12 ∧ n < sz
theorem kZ.le {n sz b : Nat} (h : kZ n sz b) : sz ≤ 4096 ∧ n < 4096 ∧ 1 ≤ sz := by
  obtain ⟨h1, h2, h3⟩ := h
  have : 2 ^ b ≤ 2 ^ 12 := Nat.pow_le_pow_right (by decide) h2
  have h5 : 2 ^ 12 = 4096 := by decide
  omega
theorem nI_bv {x : Nat} (h : x < 2 ^ 32) : (nI x).toBitVec.toNat = x := by
  rw [nI, Int32.toBitVec_ofNat', BitVec.toNat_ofNat, Nat.mod_eq_of_lt h]
theorem and_mask {n sz b : Nat} (h : kZ n sz b) {x : Nat} (hx : x < 2 ^ 32) : nI x &&& nI (sz - 1) = nI (x % sz) := by
  have := h.le
  rw [pk_andN hx b (by rw [nI_bv (by omega), h.1]), h.1]
theorem ushr12 {x : Nat} (hx : x < 2 ^ 32) : ((nI x).toUInt32 >>> ((12 : Int32).toUInt32 &&& Int32.toUInt32 31)).toInt32 = nI (x / 4096) := pk_ushrN hx 12 12 (by decide)
theorem and12 {x : Nat} (hx : x < 2 ^ 32) : nI x &&& 4095 = nI (x % 4096) := pk_andN hx 12 (by decide)
theorem nI_or {a b : Nat} (ha : a < 2 ^ 32) (hb : b < 2 ^ 32) : nI a ||| nI b = nI (a ||| b) := by
  apply Int32.toBitVec_inj.mp
  apply BitVec.eq_of_toNat_eq
  rw [Int32.toBitVec_or, BitVec.toNat_or, nI_bv ha, nI_bv hb, nI_bv (Nat.or_lt_two_pow ha hb)]
theorem k_40' : (40 : Int32) = nI 40 := rfl
theorem c0_slotOf {t n sz b : Nat} (ht : isKT t n sz) (hz : kZ n sz b) {ks : List kK} {st : Nat} {V : Nat → Nat} (h : kT0 I J t n sz ks st V) (k : Int64) (tl : Int32) : xCon G M_X0_slotOf [.ref (G.1 t), .long k, .int tl] I J (xpi fun v I' J' => (∃ s, v = nI s ∧ s < sz ∧ ((∃ i, kTT V st s = i + 1 ∧ ks[i]? = some (k, tl)) ∨ (kTT V st s = 0 ∧ (k, tl) ∉ ks ∧ ∃ j, j < sz ∧ s = (kh sz (k, tl) + j) % sz ∧ hWalk (kTT V st) sz (kh sz) ks (k, tl) j))) ∧ I = I' ∧ J = J') := by
  obtain ⟨h3, hl, h4, s1, s5, hk, hs, H⟩ := h
  have hzl := hz.le
  have hzn := hz.2.2
  have L : ∀ j, j ≤ sz → hWalk (kTT V st) sz (kh sz) ks (k, tl) j → ∀ z7 : Option Value, xT G M_X0_slotOf (xMQ G (xpi fun v I' J' => (∃ s, v = nI s ∧ s < sz ∧ ((∃ i, kTT V st s = i + 1 ∧ ks[i]? = some (k, tl)) ∨ (kTT V st s = 0 ∧ (k, tl) ∉ ks ∧ ∃ j, j < sz ∧ s = (kh sz (k, tl) + j) % sz ∧ hWalk (kTT V st) sz (kh sz) ks (k, tl) j))) ∧ I = I' ∧ J = J')) 29 [some (.ref (G.1 t)), some (.long k), none, some (.int tl), some (.int (nI (sz - 1))), some (.int (nI ((kh sz (k, tl) + j) % sz))), some (.int (nI j)), z7] [] I J := by
    refine x_for (fun j hj IH w z7 => ?_)
    have hjl := hWalk.lt H (by omega) w
    have IH := IH hjl
    have hsl : (kh sz (k, tl) + j) % sz < sz := Nat.mod_lt _ (by omega)
    have hnext : ((kh sz (k, tl) + j) % sz + 1) % sz = (kh sz (k, tl) + (j + 1)) % sz := by rw [Nat.mod_add_mod]; rfl
    rw [← hnext] at IH
    generalize hse : (kh sz (k, tl) + j) % sz = s at *
    obtain ⟨hv, hvl⟩ := hs s hsl
    have hV : V s < 2 ^ 31 := by omega
    refine xr_iload dX0_slotOf_29 rfl ?_
    refine xr_iload dX0_slotOf_31 rfl ?_
    refine xr_icmp_gt 110 dX0_slotOf_33 (by decide) (fun hc => ?_) (fun hc => ?_)
    · have := nltl hc; omega
    refine xr_aload0 dX0_slotOf_36 rfl ?_
    refine xr_getR dX0_slotOf_37 fk_0_24 ht.1 rfl ?_
    refine xr_iload dX0_slotOf_40 rfl ?_
    refine xr_ialdv s dX0_slotOf_42 ht.2.2.2 rfl hsl (by first | decide | omega) hv ?_
    refine xr_bip bi_12 dX0_slotOf_43 ?_
    refine xr_iushr dX0_slotOf_45 ?_
    refine xr_aload0 dX0_slotOf_46 rfl ?_
    refine xr_getIv dX0_slotOf_47 fk_0_13 ht.1 rfl h4 ?_
    show xT _ _ _ 50 _ _ _ _
    rw [ushr12 (by omega)]
    refine xr_icmp_eq 56 dX0_slotOf_50 (by decide) (fun hq => ?_) (fun hq => ?_)
    rotate_left
    · have hq : V s / 4096 ≠ st := fun q => hq (by rw [q])
      have h0 : kTT V st s = 0 := by unfold kTT; rw [if_neg hq]
      refine xr_iload dX0_slotOf_53 rfl ?_
      refine xr_iret dX0_slotOf_55 rfl rfl ⟨⟨s, rfl, hsl, Or.inr ⟨h0, hWalk.miss H w (by rw [hse]; exact h0), j, hjl, hse.symm, w⟩⟩, rfl, rfl⟩
    have hq : V s / 4096 = st := (nI_eq (by omega) (by omega)).mp hq
    have h0 : kTT V st s = V s % 4096 + 1 := by unfold kTT; rw [if_pos hq]
    have hil : V s % 4096 < ks.length := by
      have := H.2.1 s hsl
      omega
    obtain ⟨k1, k2⟩ := hk _ hil
    have kat := List.getElem?_eq_getElem hil
    generalize hi : V s % 4096 = i at *
    have K95 : ∀ z7 : Option Value, ks[i]? ≠ some (k, tl) → xT G M_X0_slotOf (xMQ G (xpi fun v I' J' => (∃ s, v = nI s ∧ s < sz ∧ ((∃ i, kTT V st s = i + 1 ∧ ks[i]? = some (k, tl)) ∨ (kTT V st s = 0 ∧ (k, tl) ∉ ks ∧ ∃ j, j < sz ∧ s = (kh sz (k, tl) + j) % sz ∧ hWalk (kTT V st) sz (kh sz) ks (k, tl) j))) ∧ I = I' ∧ J = J')) 95 [some (.ref (G.1 t)), some (.long k), none, some (.int tl), some (.int (nI (sz - 1))), some (.int (nI s)), some (.int (nI j)), z7] [] I J := by
      intro z7 hne
      refine xr_iload dX0_slotOf_95 rfl ?_
      refine xr_ic1 dX0_slotOf_97 ?_
      refine xr_iadd dX0_slotOf_98 ?_
      refine xr_iload dX0_slotOf_99 rfl ?_
      refine xr_iand dX0_slotOf_101 ?_
      rw [k_1, nI_add, and_mask hz (by omega)]
      refine xr_istore dX0_slotOf_102 (Nat.le_of_ble_eq_true rfl) ?_
      show xT _ _ _ 104 [_, _, _, _, _, _, _, _] _ _ _
      refine xr_iinc dX0_slotOf_104 rfl ii_1 (Nat.le_of_ble_eq_true rfl) ?_
      show xT _ _ _ 107 [_, _, _, _, _, _, _, _] _ _ _
      refine xr_goto 29 dX0_slotOf_107 (by decide) ?_
      rw [k_1, nI_add]
      exact IH (w.succ (by rw [hse]; exact h0) hne) _
    refine xr_aload0 dX0_slotOf_56 rfl ?_
    refine xr_getR dX0_slotOf_57 fk_0_24 ht.1 rfl ?_
    refine xr_iload dX0_slotOf_60 rfl ?_
    refine xr_ialdv s dX0_slotOf_62 ht.2.2.2 rfl hsl (by first | decide | omega) hv ?_
    refine xr_sip si_4095 dX0_slotOf_63 ?_
    refine xr_iand dX0_slotOf_66 ?_
    rw [and12 (by omega), hi]
    refine xr_istore dX0_slotOf_67 (Nat.le_of_ble_eq_true rfl) ?_
    show xT _ _ _ 69 [_, _, _, _, _, _, _, _] _ _ _
    refine xr_aload0 dX0_slotOf_69 rfl ?_
    refine xr_getR dX0_slotOf_70 fk_0_16 ht.1 rfl ?_
    refine xr_iload dX0_slotOf_73 rfl ?_
    refine xr_laldv i dX0_slotOf_75 ht.2.1 rfl (by omega) (by first | decide | omega) k1 ?_
    refine xr_lload1 dX0_slotOf_76 rfl ?_
    refine xr_lcmp dX0_slotOf_77 ?_
    refine xr_if_ne 95 dX0_slotOf_78 (by decide) (fun hne => ?_) (fun hne => ?_)
    · refine K95 _ (fun q => hne ((lg_cmp_eq _ _).mpr ?_))
      rw [kat] at q
      rw [Option.some.inj q]
    have he1 := (lg_cmp_eq _ _).mp hne
    refine xr_aload0 dX0_slotOf_81 rfl ?_
    refine xr_getR dX0_slotOf_82 fk_0_20 ht.1 rfl ?_
    refine xr_iload dX0_slotOf_85 rfl ?_
    refine xr_ialdv i dX0_slotOf_87 ht.2.2.1 rfl (by omega) (by first | decide | omega) k2 ?_
    refine xr_iload3 dX0_slotOf_88 rfl ?_
    refine xr_icmp_ne 95 dX0_slotOf_89 (by decide) (fun hne2 => ?_) (fun hne2 => ?_)
    · refine K95 _ (fun q => hne2 ?_)
      rw [kat] at q
      rw [Option.some.inj q]
    refine xr_iload dX0_slotOf_92 rfl ?_
    refine xr_iret dX0_slotOf_94 rfl rfl ⟨⟨s, rfl, hsl, Or.inl ⟨i, h0, by rw [kat, ← he1, ← hne2]⟩⟩, rfl, rfl⟩
  refine x_ent (by decide) (Nat.le_of_ble_eq_true rfl) rfl ?_
  show xT _ _ _ 0 [_, _, _, _, _, _, _, _] _ _ _
  refine xr_aload0 dX0_slotOf_0 rfl ?_
  refine xr_getR dX0_slotOf_1 fk_0_24 ht.1 rfl ?_
  refine xr_alen0 dX0_slotOf_4 ht.2.2.2 ?_
  refine xr_ic1 dX0_slotOf_5 ?_
  refine xr_isub dX0_slotOf_6 ?_
  rw [k_1, pk_sub (by omega)]
  refine xr_istore dX0_slotOf_7 (Nat.le_of_ble_eq_true rfl) ?_
  show xT _ _ _ 9 [_, _, _, _, _, _, _, _] _ _ _
  refine xr_lload1 dX0_slotOf_9 rfl ?_
  refine xr_iload3 dX0_slotOf_10 rfl ?_
  refine xr_i2l dX0_slotOf_11 ?_
  refine xr_ladd dX0_slotOf_12 ?_
  refine xr_ldc2 cs_0_38 dX0_slotOf_13 ?_
  refine xr_lmul dX0_slotOf_16 ?_
  refine xr_bip bi_40 dX0_slotOf_17 ?_
  show xT _ _ _ 19 _ _ _ _
  refine xr_lushr dX0_slotOf_19 ?_
  refine xr_l2i dX0_slotOf_20 ?_
  refine xr_iload dX0_slotOf_21 rfl ?_
  refine xr_iand dX0_slotOf_23 ?_
  have hst : (((((k + tl.toInt64) * -7046029254386353131).toUInt64 >>> ((40 : Int32).toInt64.toUInt64 &&& Int64.toUInt64 63)).toInt64).toInt32 &&& nI (sz - 1)) = nI ((kh sz (k, tl) + 0) % sz) := by
    have h1 := uN_shr ((k + tl.toInt64) * -7046029254386353131) (k := 40) (by decide)
    have h2 := uN_lt ((k + tl.toInt64) * -7046029254386353131)
    rw [k_40', l2i_lN (by rw [h1]; omega), h1, and_mask hz (by omega), Nat.add_zero]
    congr 1
    unfold kh
    rw [Nat.mod_mod]
  rw [hst]
  refine xr_istore dX0_slotOf_24 (Nat.le_of_ble_eq_true rfl) ?_
  show xT _ _ _ 26 [_, _, _, _, _, _, _, _] _ _ _
  refine xr_ic0 dX0_slotOf_26 ?_
  refine xr_istore dX0_slotOf_27 (Nat.le_of_ble_eq_true rfl) ?_
  show xT _ _ _ 29 [_, _, _, _, _, _, _, _] _ _ _
  exact L 0 (by omega) hWalk.zero _
theorem c0_find {t n sz b : Nat} (ht : isKT t n sz) (hz : kZ n sz b) {ks : List kK} (h : kT I J t n sz ks) (k : Int64) (tl : Int32) : xCon G M_X0_find [.ref (G.1 t), .long k, .int tl] I J (xpi fun v I' J' => ((∃ i, ks[i]? = some (k, tl) ∧ v = nI i) ∨ ((k, tl) ∉ ks ∧ v = -1)) ∧ I = I' ∧ J = J') := by
  obtain ⟨st, V, h⟩ := h
  have h' := h
  obtain ⟨h3, hl, h4, s1, s5, hk, hs, H⟩ := h'
  have hzl := hz.le
  have hzn := hz.2.2
  refine x_ent (by decide) (Nat.le_of_ble_eq_true rfl) rfl ?_
  show xT _ _ _ 0 [_, _, _, _, _, _] _ _ _
  refine xr_aload0 dX0_find_0 rfl ?_
  refine xr_lload1 dX0_find_1 rfl ?_
  refine xr_iload3 dX0_find_2 rfl ?_
  refine xr_cVi [_, _] dX0_find_3 (xcv_of cf_X0_slotOf ml_0_34 (by decide)) rfl ht.1 rfl rfl rfl (Nat.le_of_ble_eq_true rfl) (c0_slotOf ht hz h k tl) (fun v I1 J1 hc => ?_)
  obtain ⟨⟨s, rfl, hsl, hx⟩, rfl, rfl⟩ := hc
  obtain ⟨hv, hvl⟩ := hs s hsl
  have hV : V s < 2 ^ 31 := by omega
  refine xr_istore dX0_find_6 (Nat.le_of_ble_eq_true rfl) ?_
  show xT _ _ _ 8 [_, _, _, _, _, _] _ _ _
  refine xr_iload dX0_find_8 rfl ?_
  refine xr_if_lt 34 dX0_find_10 (by decide) (fun h0 => ?_) (fun h0 => ?_)
  · exact absurd h0 (nI_pos (by omega))
  refine xr_aload0 dX0_find_13 rfl ?_
  refine xr_getR dX0_find_14 fk_0_24 ht.1 rfl ?_
  refine xr_iload dX0_find_17 rfl ?_
  refine xr_ialdv s dX0_find_19 ht.2.2.2 rfl hsl (by first | decide | omega) hv ?_
  refine xr_bip bi_12 dX0_find_20 ?_
  refine xr_iushr dX0_find_22 ?_
  refine xr_aload0 dX0_find_23 rfl ?_
  refine xr_getIv dX0_find_24 fk_0_13 ht.1 rfl h4 ?_
  show xT _ _ _ 27 _ _ _ _
  rw [ushr12 (by omega)]
  refine xr_icmp_ne 34 dX0_find_27 (by decide) (fun hq => ?_) (fun hq => ?_)
  · have hq : V s / 4096 ≠ st := fun q => hq (by rw [q])
    have h0 : kTT V st s = 0 := by unfold kTT; rw [if_neg hq]
    refine xr_ic0 dX0_find_34 ?_
    refine xr_istore dX0_find_35 (Nat.le_of_ble_eq_true rfl) ?_
    show xT _ _ _ 37 [_, _, _, _, _, _] _ _ _
    refine xr_iload dX0_find_37 rfl ?_
    refine xr_if_eq 56 dX0_find_39 (by decide) (fun hz2 => ?_) (fun hz2 => ?_)
    rotate_left
    · exact absurd rfl hz2
    refine xr_icm1 dX0_find_56 ?_
    refine xr_iret dX0_find_57 rfl rfl ⟨Or.inr ⟨?_, rfl⟩, rfl, rfl⟩
    rcases hx with ⟨i, e, -⟩ | ⟨-, hm, -⟩
    · rw [h0] at e; cases e
    · exact hm
  have hq : V s / 4096 = st := (nI_eq (by omega) (by omega)).mp hq
  have h0 : kTT V st s = V s % 4096 + 1 := by unfold kTT; rw [if_pos hq]
  refine xr_ic1 dX0_find_30 ?_
  refine xr_goto 35 dX0_find_31 (by decide) ?_
  refine xr_istore dX0_find_35 (Nat.le_of_ble_eq_true rfl) ?_
  show xT _ _ _ 37 [_, _, _, _, _, _] _ _ _
  refine xr_iload dX0_find_37 rfl ?_
  refine xr_if_eq 56 dX0_find_39 (by decide) (fun hz2 => ?_) (fun hz2 => ?_)
  · exact absurd hz2 (by decide)
  refine xr_aload0 dX0_find_42 rfl ?_
  refine xr_getR dX0_find_43 fk_0_24 ht.1 rfl ?_
  refine xr_iload dX0_find_46 rfl ?_
  refine xr_ialdv s dX0_find_48 ht.2.2.2 rfl hsl (by first | decide | omega) hv ?_
  refine xr_sip si_4095 dX0_find_49 ?_
  refine xr_iand dX0_find_52 ?_
  rw [and12 (by omega)]
  refine xr_goto 57 dX0_find_53 (by decide) ?_
  refine xr_iret dX0_find_57 rfl rfl ⟨Or.inl ?_, rfl, rfl⟩
  rcases hx with ⟨i, e, e2⟩ | ⟨e, -⟩
  · have : i = V s % 4096 := by omega
    exact ⟨i, e2, by rw [this]⟩
  · rw [e] at h0; cases h0
theorem c0_add {t n sz b : Nat} (ht : isKT t n sz) (hz : kZ n sz b) {ks : List kK} (h : kT I J t n sz ks) (k : Int64) (tl : Int32) : xCon G M_X0_add [.ref (G.1 t), .long k, .int tl] I J (xpi fun v I' J' => (∃ i, ks[i]? = some (k, tl) ∧ v = nI i ∧ I = I' ∧ J = J') ∨ ((k, tl) ∉ ks ∧ ks.length = n ∧ v = -1 ∧ I = I' ∧ J = J') ∨ ((k, tl) ∉ ks ∧ ks.length < n ∧ v = nI ks.length ∧ kT I' J' t n sz (ks ++ [(k, tl)]) ∧ cfx [t, t + 1, t + 2, t + 3] I J I' J')) := by
  obtain ⟨st, V, h⟩ := h
  have h' := h
  obtain ⟨h3, hl, h4, s1, s5, hk, hs, H⟩ := h'
  have hzl := hz.le
  have hzn := hz.2.2
  refine x_ent (by decide) (Nat.le_of_ble_eq_true rfl) rfl ?_
  show xT _ _ _ 0 [_, _, _, _, _] _ _ _
  refine xr_aload0 dX0_add_0 rfl ?_
  refine xr_lload1 dX0_add_1 rfl ?_
  refine xr_iload3 dX0_add_2 rfl ?_
  refine xr_cVi [_, _] dX0_add_3 (xcv_of cf_X0_slotOf ml_0_34 (by decide)) rfl ht.1 rfl rfl rfl (Nat.le_of_ble_eq_true rfl) (c0_slotOf ht hz h k tl) (fun v I1 J1 hc => ?_)
  obtain ⟨⟨s, rfl, hsl, hx⟩, rfl, rfl⟩ := hc
  obtain ⟨hv, hvl⟩ := hs s hsl
  have hV : V s < 2 ^ 31 := by omega
  refine xr_istore dX0_add_6 (Nat.le_of_ble_eq_true rfl) ?_
  show xT _ _ _ 8 [_, _, _, _, _] _ _ _
  refine xr_iload dX0_add_8 rfl ?_
  refine xr_if_ge 15 dX0_add_10 (by decide) (fun h0 => ?_) (fun h0 => ?_)
  rotate_left
  · exact absurd (nI_pos' (by omega)) h0
  refine xr_aload0 dX0_add_15 rfl ?_
  refine xr_getR dX0_add_16 fk_0_24 ht.1 rfl ?_
  refine xr_iload dX0_add_19 rfl ?_
  refine xr_ialdv s dX0_add_21 ht.2.2.2 rfl hsl (by first | decide | omega) hv ?_
  refine xr_bip bi_12 dX0_add_22 ?_
  refine xr_iushr dX0_add_24 ?_
  refine xr_aload0 dX0_add_25 rfl ?_
  refine xr_getIv dX0_add_26 fk_0_13 ht.1 rfl h4 ?_
  show xT _ _ _ 29 _ _ _ _
  rw [ushr12 (by omega)]
  refine xr_icmp_ne 44 dX0_add_29 (by decide) (fun hq => ?_) (fun hq => ?_)
  rotate_left
  · have hq : V s / 4096 = st := (nI_eq (by omega) (by omega)).mp hq
    have h0 : kTT V st s = V s % 4096 + 1 := by unfold kTT; rw [if_pos hq]
    refine xr_aload0 dX0_add_32 rfl ?_
    refine xr_getR dX0_add_33 fk_0_24 ht.1 rfl ?_
    refine xr_iload dX0_add_36 rfl ?_
    refine xr_ialdv s dX0_add_38 ht.2.2.2 rfl hsl (by first | decide | omega) hv ?_
    refine xr_sip si_4095 dX0_add_39 ?_
    refine xr_iand dX0_add_42 ?_
    rw [and12 (by omega)]
    refine xr_iret dX0_add_43 rfl rfl (Or.inl ?_)
    rcases hx with ⟨i, e, e2⟩ | ⟨e, -⟩
    · have : i = V s % 4096 := by omega
      exact ⟨i, e2, by rw [this], rfl, rfl⟩
    · rw [e] at h0; cases h0
  have hq : V s / 4096 ≠ st := fun q => hq (by rw [q])
  have h0 : kTT V st s = 0 := by unfold kTT; rw [if_neg hq]
  have hx : (k, tl) ∉ ks ∧ ∃ j, j < sz ∧ s = (kh sz (k, tl) + j) % sz ∧ hWalk (kTT V st) sz (kh sz) ks (k, tl) j := by
    rcases hx with ⟨i, e, -⟩ | ⟨-, hm, hw⟩
    · rw [h0] at e; cases e
    · exact ⟨hm, hw⟩
  obtain ⟨hm, j, hj, hsj, w⟩ := hx
  refine xr_aload0 dX0_add_44 rfl ?_
  refine xr_getIv dX0_add_45 fk_0_9 ht.1 rfl h3 ?_
  refine xr_aload0 dX0_add_48 rfl ?_
  refine xr_getR dX0_add_49 fk_0_16 ht.1 rfl ?_
  refine xr_alen1 dX0_add_52 ht.2.1 ?_
  refine xr_icmp_lt 58 dX0_add_53 (by decide) (fun hlt => ?_) (fun hlt => ?_)
  rotate_left
  · have := nnlt hlt
    refine xr_icm1 dX0_add_56 ?_
    refine xr_iret dX0_add_57 rfl rfl (Or.inr (Or.inl ⟨hm, by omega, rfl, rfl, rfl⟩))
  have hlt := nltl hlt
  refine xr_aload0 dX0_add_58 rfl ?_
  refine xr_getR dX0_add_59 fk_0_16 ht.1 rfl ?_
  refine xr_aload0 dX0_add_62 rfl ?_
  refine xr_getIv dX0_add_63 fk_0_9 ht.1 rfl h3 ?_
  refine xr_lload1 dX0_add_66 rfl ?_
  refine xr_last ks.length dX0_add_67 ht.2.1 rfl hlt (by first | decide | omega) ?_
  generalize hJ2 : va_up J (t + 1) (vp_updL (J (t + 1)) ks.length k) = J2
  refine xr_aload0 dX0_add_68 rfl ?_
  refine xr_getR dX0_add_69 fk_0_20 ht.1 rfl ?_
  refine xr_aload0 dX0_add_72 rfl ?_
  refine xr_getIv dX0_add_73 fk_0_9 ht.1 rfl h3 ?_
  refine xr_iload3 dX0_add_76 rfl ?_
  refine xr_iast ks.length dX0_add_77 ht.2.2.1 rfl hlt (by first | decide | omega) ?_
  generalize hI2 : va_up I (t + 2) (upd (I (t + 2)) ks.length tl) = I2
  have a4 : I2 t 4 = nI st := by rw [← hI2, va_up_ne _ _ (by omega)]; exact h4
  have a3 : I2 t 3 = nI ks.length := by rw [← hI2, va_up_ne _ _ (by omega)]; exact h3
  have hval : nI st <<< ((12 : Int32) &&& 31) ||| nI ks.length = nI (st * 4096 + ks.length) := by
    rw [pk_shlN _ 12 (by decide) (by omega), nI_or (by omega) (by omega)]
    congr 1
    rw [Nat.or_comm]
    have := or_add (a := ks.length) (b := st) (i := 12) (by omega)
    rw [this]
    omega
  refine xr_aload0 dX0_add_78 rfl ?_
  refine xr_getR dX0_add_79 fk_0_24 ht.1 rfl ?_
  refine xr_iload dX0_add_82 rfl ?_
  refine xr_aload0 dX0_add_84 rfl ?_
  refine xr_getIv dX0_add_85 fk_0_13 ht.1 rfl a4 ?_
  refine xr_bip bi_12 dX0_add_88 ?_
  refine xr_ishl dX0_add_90 ?_
  refine xr_aload0 dX0_add_91 rfl ?_
  show xT _ _ _ 92 _ _ _ _
  refine xr_getIv dX0_add_92 fk_0_9 ht.1 rfl a3 ?_
  refine xr_ior dX0_add_95 ?_
  rw [hval]
  refine xr_iast s dX0_add_96 ht.2.2.2 rfl hsl (by first | decide | omega) ?_
  generalize hI3 : va_up I2 (t + 3) (upd (I2 (t + 3)) s (nI (st * 4096 + ks.length))) = I3
  have b3 : I3 t 3 = nI ks.length := by rw [← hI3, va_up_ne _ _ (by omega)]; exact a3
  refine xr_aload0 dX0_add_97 rfl ?_
  refine xr_dup dX0_add_98 rfl ?_
  refine xr_getIv dX0_add_99 fk_0_9 ht.1 rfl b3 ?_
  refine xr_ic1 dX0_add_102 ?_
  refine xr_iadd dX0_add_103 ?_
  rw [k_1, nI_add]
  refine xr_putI dX0_add_104 fp_0_9 ht.1 rfl ?_
  generalize hI4 : va_up I3 t (upd (I3 t) 3 (nI (ks.length + 1))) = I4
  have c3 : I4 t 3 = nI (ks.length + 1) := by rw [← hI4, up_same, upd_same]
  refine xr_aload0 dX0_add_107 rfl ?_
  refine xr_getIv dX0_add_108 fk_0_9 ht.1 rfl c3 ?_
  refine xr_ic1 dX0_add_111 ?_
  refine xr_isub dX0_add_112 ?_
  rw [k_1, pk_sub (by omega), Nat.add_sub_cancel]
  have e0 : I4 t 4 = nI st := by rw [← hI4, up_same, upd_ne _ _ (by decide), ← hI3, va_up_ne _ _ (by omega)]; exact a4
  have e2 : I4 (t + 2) = upd (I (t + 2)) ks.length tl := by rw [← hI4, va_up_ne _ _ (by omega), ← hI3, va_up_ne _ _ (by omega), ← hI2, up_same]
  have e3 : I4 (t + 3) = upd (I (t + 3)) s (nI (st * 4096 + ks.length)) := by rw [← hI4, va_up_ne _ _ (by omega), ← hI3, up_same, ← hI2, va_up_ne _ _ (by omega)]
  have eJ : J2 (t + 1) = vp_updL (J (t + 1)) ks.length k := by rw [← hJ2, up_same]
  refine xr_iret dX0_add_113 rfl rfl (Or.inr (Or.inr ⟨hm, hlt, rfl, ⟨st, fun s' => if s' = s then st * 4096 + ks.length else V s', ?_, ?_, e0, s1, s5, fun i hi => ?_, fun s' hs' => ?_, ?_⟩, ?_⟩))
  · rw [c3]; simp
  · simp; omega
  · rw [eJ, e2]
    rw [List.length_append, List.length_singleton] at hi
    rcases Nat.lt_or_ge i ks.length with q | q
    · rw [updL_ne _ _ (by omega), upd_ne _ _ (by omega), List.getElem_append_left q]
      exact hk i q
    · have : i = ks.length := by omega
      subst this
      rw [updL_same, upd_same]
      simp
  · rw [e3]
    show _ = nI (if s' = s then st * 4096 + ks.length else V s') ∧ (if s' = s then st * 4096 + ks.length else V s') / 4096 ≤ st
    by_cases e : s' = s
    · rw [e, upd_same, if_pos rfl]; exact ⟨rfl, by omega⟩
    · rw [upd_ne _ _ e, if_neg e]; exact hs s' hs'
  · refine H.add w hj (by rw [← hsj]; exact h0) ?_ (fun s' hs' e => ?_)
    · rw [← hsj]
      unfold kTT
      simp only [if_true]
      rw [if_pos (by omega)]
      omega
    · rw [← hsj] at e
      unfold kTT
      simp only [if_neg e]
  · rw [← hI4, ← hI3, ← hI2, ← hJ2]
    exact (((cfx.rf.upJ _ (by simp)).up _ (by simp)).up _ (by simp)).up _ (by simp)
theorem c0_clear {t n sz b : Nat} (ht : isKT t n sz) (hz : kZ n sz b) {ks : List kK} (h : kT I J t n sz ks) : xCon G M_X0_clear [.ref (G.1 t)] I J (xpv fun I' J' => kT I' J' t n sz [] ∧ cfx [t, t + 3] I J I' J') := by
  obtain ⟨st, V, h3, hl, h4, s1, s5, hk, hs, H⟩ := h
  have hzl := hz.le
  have hzn := hz.2.2
  refine x_ent (by decide) (Nat.le_of_ble_eq_true rfl) rfl ?_
  show xT _ _ _ 0 [_] _ _ _
  refine xr_aload0 dX0_clear_0 rfl ?_
  refine xr_ic0 dX0_clear_1 ?_
  refine xr_putI dX0_clear_2 fp_0_9 ht.1 rfl ?_
  generalize hI1 : va_up I t (upd (I t) 3 0) = I1
  have a4 : I1 t 4 = nI st := by rw [← hI1, up_same, upd_ne _ _ (by decide)]; exact h4
  refine xr_aload0 dX0_clear_5 rfl ?_
  refine xr_dup dX0_clear_6 rfl ?_
  refine xr_getIv dX0_clear_7 fk_0_13 ht.1 rfl a4 ?_
  refine xr_ic1 dX0_clear_10 ?_
  refine xr_iadd dX0_clear_11 ?_
  rw [k_1, nI_add]
  refine xr_putI dX0_clear_12 fp_0_13 ht.1 rfl ?_
  generalize hI2 : va_up I1 t (upd (I1 t) 4 (nI (st + 1))) = I2
  have b4 : I2 t 4 = nI (st + 1) := by rw [← hI2, up_same, upd_same]
  have b3 : I2 t 3 = 0 := by rw [← hI2, up_same, upd_ne _ _ (by decide), ← hI1, up_same, upd_same]
  have bs : I2 (t + 3) = I (t + 3) := by rw [← hI2, va_up_ne _ _ (by omega), ← hI1, va_up_ne _ _ (by omega)]
  have f2 : cfx [t, t + 3] I J I2 J := by rw [← hI2, ← hI1]; exact (cfx.rf.up _ (by simp)).up _ (by simp)
  refine xr_aload0 dX0_clear_15 rfl ?_
  refine xr_getIv dX0_clear_16 fk_0_13 ht.1 rfl b4 ?_
  refine xr_ldc cs_0_27 dX0_clear_19 ?_
  refine xr_icmp_le 37 dX0_clear_21 (by decide) (fun hc => ?_) (fun hc => ?_)
  · have hc : st + 1 ≤ 500000 := (nI_leI (b := 500000) (by omega) (by decide)).mp hc
    refine xr_vret dX0_clear_37 rfl rfl ⟨⟨st + 1, V, b3, Nat.zero_le _, b4, by omega, hc, fun i hi => absurd hi (Nat.not_lt_zero _), fun s hs' => ?_, ?_⟩, f2⟩
    · rw [bs]
      obtain ⟨q1, q2⟩ := hs s hs'
      exact ⟨q1, by omega⟩
    · refine hOk.nil (fun s hs' => ?_)
      have := (hs s hs').2
      unfold kTT
      rw [if_neg (by omega)]
  refine xr_aload0 dX0_clear_24 rfl ?_
  refine xr_getR dX0_clear_25 fk_0_24 ht.1 rfl ?_
  refine xr_ic0 dX0_clear_28 ?_
  refine xr_cSv [_, _] dX0_clear_29 (xcs_of cf_J7_fill_53178 ml_0_28 (by decide)) rfl rfl (Nat.le_of_ble_eq_true rfl) (cJ_fill ht.2.2.2 (by omega) 0) (fun I3 J3 hc3 => ?_)
  obtain ⟨h3', e3, rfl⟩ := hc3
  refine xr_aload0 dX0_clear_32 rfl ?_
  refine xr_ic1 dX0_clear_33 ?_
  refine xr_putI dX0_clear_34 fp_0_13 ht.1 rfl ?_
  generalize hI4 : va_up I3 t (upd (I3 t) 4 1) = I4
  refine xr_vret dX0_clear_37 rfl rfl ⟨⟨1, fun _ => 0, ?_, Nat.zero_le _, ?_, by decide, by decide, fun i hi => absurd hi (Nat.not_lt_zero _), fun s hs' => ?_, hOk.nil (fun s hs' => by simp [kTT])⟩, ?_⟩
  · rw [← hI4, up_same, upd_ne _ _ (by decide), e3 t (by omega)]; exact b3
  · rw [← hI4, up_same, upd_same]; rfl
  · rw [← hI4, va_up_ne _ _ (by omega), h3' s hs']; exact ⟨rfl, by show 0 / 4096 ≤ 1; decide⟩
  · rw [← hI4]
    refine (f2.tr (fun a ha => ⟨e3 a (fun q => ha (by rw [q]; simp)), rfl⟩)).up _ (by simp)
end C15
