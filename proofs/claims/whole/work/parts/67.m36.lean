section M36
variable {G : xG} {I : xI} {J : xJ}
def gKey (g : List Nat) : Int64 := lN (p4 g)
def gSlot (d : Int64) : Nat := uN (d * -7046029254386353131) / 2 ^ 51
theorem gSlot_lt (d : Int64) : gSlot d < 8192 := by
  have := uN_lt (d * -7046029254386353131)
  unfold gSlot
  omega
theorem p16 (p : Nat) : 2 ^ (4 * p) = 16 ^ p := by rw [Nat.pow_mul]
theorem p4_64 {l : List Nat} (h : d16 l) (hl : l.length ≤ 16) : p4 l < 2 ^ 64 := by
  have h1 := p4_lt h
  have h2 : 16 ^ l.length ≤ 16 ^ 16 := Nat.pow_le_pow_right (by decide) hl
  have h3 : 16 ^ 16 = 2 ^ 64 := by decide
  omega
theorem uN_key {l : List Nat} (h : d16 l) (hl : l.length ≤ 16) : uN (lN (p4 l)) = p4 l := uN_lN (p4_64 h hl)
theorem key_get {l : List Nat} (h : d16 l) (hl : l.length ≤ 16) {i : Nat} (hi : i < l.length) : uN ((lN (p4 l)).toUInt64 >>> ((nI (4 * i)).toInt64.toUInt64 &&& Int64.toUInt64 63)).toInt64 % 16 = l[i] := by
  rw [uN_shr _ (by omega), uN_key h hl, p16, p4_get h i hi]
theorem key_push {l : List Nat} (h : d16 l) (hl : l.length < 16) {x : Nat} (hx : x < 16) : lN (p4 l) ||| ((nI x).toInt64 <<< ((nI (4 * l.length)).toInt64 &&& 63)) = lN (p4 (l ++ [x])) := by
  have hd : d16 (l ++ [x]) := fun y hy => by
    rcases List.mem_append.mp hy with q | q
    · exact h y q
    · rw [List.mem_singleton.mp q]; exact hx
  apply uN_inj
  have h1 := p4_lt h
  have h2 : p4 (l ++ [x]) < 2 ^ 64 := p4_64 hd (by simp; omega)
  rw [p4_snoc] at h2
  rw [uN_or, uN_key h (by omega), uN_shl _ (by omega), uN_nI (by omega), uN_key hd (by simp; omega), p4_snoc, p16]
  rw [Nat.mul_comm (16 ^ l.length) x] at h2 ⊢
  rw [Nat.mod_eq_of_lt (by omega), ← p16, or_add (by rw [p16]; exact h1)]
def mGp (I : xI) (J : xJ) (gs : List (List Nat)) : Prop := I 77 38 = nI gs.length ∧ gs.length ≤ 3000 ∧ (∀ k (hk : k < gs.length), J 101 k = gKey gs[k]) ∧ ∃ T : Nat → Nat, (∀ s, s < 8192 → I 102 s = nI (T s)) ∧ hOk T 8192 gSlot (gs.map gKey)
theorem xr_zaldv {F : xM} {Q : xQT} {pc : Nat} {lv : xL} {st : List Value} {k n : Nat} {rf : Nat → Nat} {i v : Int32} (j : Nat) (hd : decode F.2.1 pc = .ok (.baload, 1)) (hl : lay k = .inr (2, n, rf)) (hi : i = nI j) (hj : j < n) (hn : n < 2 ^ 31) (hv : I k j = v) (kk : xT G F Q (pc + 1) lv (.int v :: st) I J) : xT G F Q pc lv (.int i :: .ref (G.1 k) :: st) I J := xr_zald j hd hl hi hj hn (by rw [hv]; exact kk)
theorem k_51 : (51 : Int32) = nI 51 := rfl
theorem updL_same (f : Nat → Int64) (k : Nat) (v : Int64) : vp_updL f k v k = v := by simp [vp_updL]
theorem updL_ne (f : Nat → Int64) {k j : Nat} (v : Int64) (h : j ≠ k) : vp_updL f k v j = f j := by simp [vp_updL, h]
theorem c9_toGroup {gs : List (List Nat)} (g : List Nat) (h : mGp I J gs) : xCon G M_X9_toGroup [.ref (G.1 77), .long (gKey g)] I J (xpi fun v I' J' => (gKey g ∈ gs.map gKey ∧ v = 1 ∧ I = I' ∧ J = J') ∨ (gKey g ∉ gs.map gKey ∧ gs.length = 3000 ∧ v = 0 ∧ I = I' ∧ J = J') ∨ (gKey g ∉ gs.map gKey ∧ v = 1 ∧ mGp I' J' (gs ++ [g]) ∧ mfx [102] [38] I I' ∧ ∀ a, a ≠ 101 → J' a = J a)) := by
  obtain ⟨h38, hl, hJ, T, hT, H⟩ := h
  have hlm : (gs.map gKey).length < 8192 := by rw [List.length_map]; omega
  have L : ∀ j, j ≤ 8192 → hWalk T 8192 gSlot (gs.map gKey) (gKey g) j → ∀ z : Int64, xT G M_X9_toGroup (xMQ G (xpi fun v I' J' => (gKey g ∈ gs.map gKey ∧ v = 1 ∧ I = I' ∧ J = J') ∨ (gKey g ∉ gs.map gKey ∧ gs.length = 3000 ∧ v = 0 ∧ I = I' ∧ J = J') ∨ (gKey g ∉ gs.map gKey ∧ v = 1 ∧ mGp I' J' (gs ++ [g]) ∧ mfx [102] [38] I I' ∧ ∀ a, a ≠ 101 → J' a = J a))) 13 [some (.ref (G.1 77)), some (.long (gKey g)), none, some (.long z), none, some (.int (nI ((gSlot (gKey g) + j) % 8192)))] [] I J := by
    refine x_for (fun j hj IH w z => ?_)
    have hjl := hWalk.lt H hlm w
    have IH := IH hjl
    have hs : (gSlot (gKey g) + j) % 8192 < 8192 := Nat.mod_lt _ (by decide)
    have hT1 := hT _ hs
    have hTl := H.2.1 _ hs
    rw [List.length_map] at hTl
    generalize hsl : (gSlot (gKey g) + j) % 8192 = s at *
    refine xr_aload0 dX9_toGroup_13 rfl ?_
    refine xr_getR dX9_toGroup_14 fk_9_88 lay_77 rfl ?_
    refine xr_iload dX9_toGroup_17 rfl ?_
    refine xr_ialdv s dX9_toGroup_19 lay_102 rfl hs (by decide) hT1 ?_
    refine xr_if_le 55 dX9_toGroup_20 (by decide) (fun hz => ?_) (fun hz => ?_)
    · have h0 : T s = 0 := by have := (nI_leI (b := 0) (by omega) (by decide)).mp hz; omega
      have hm := hWalk.miss H w (by rw [hsl]; exact h0)
      refine xr_aload0 dX9_toGroup_55 rfl ?_
      refine xr_getR dX9_toGroup_56 fk_9_88 lay_77 rfl ?_
      refine xr_iload dX9_toGroup_59 rfl ?_
      refine xr_ialdv s dX9_toGroup_61 lay_102 rfl hs (by decide) hT1 ?_
      refine xr_if_le 67 dX9_toGroup_62 (by decide) (fun hz2 => ?_) (fun hz2 => ?_)
      rotate_left
      · exact absurd hz hz2
      refine xr_aload0 dX9_toGroup_67 rfl ?_
      refine xr_getIv dX9_toGroup_68 fk_9_278 lay_77 rfl h38 ?_
      refine xr_sip si_3000 dX9_toGroup_71 ?_
      refine xr_icmp_ne 79 dX9_toGroup_74 (by decide) (fun hne => ?_) (fun hne => ?_)
      rotate_left
      · have hne : gs.length = 3000 := (nI_eq (by omega) (by decide)).mp hne
        refine xr_ic0 dX9_toGroup_77 ?_
        refine xr_zret dX9_toGroup_78 rfl rfl (by simp) (Or.inr (Or.inl ⟨hm, hne, rfl, rfl, rfl⟩))
      have hne : gs.length ≠ 3000 := fun q => hne (by rw [q]; rfl)
      refine xr_aload0 dX9_toGroup_79 rfl ?_
      refine xr_getR dX9_toGroup_80 fk_9_84 lay_77 rfl ?_
      refine xr_aload0 dX9_toGroup_83 rfl ?_
      refine xr_getIv dX9_toGroup_84 fk_9_278 lay_77 rfl h38 ?_
      refine xr_lload1 dX9_toGroup_87 rfl ?_
      refine xr_last gs.length dX9_toGroup_88 lay_101 rfl (by omega) (by decide) ?_
      refine xr_aload0 dX9_toGroup_89 rfl ?_
      refine xr_dup dX9_toGroup_90 rfl ?_
      refine xr_getIv dX9_toGroup_91 fk_9_278 lay_77 rfl h38 ?_
      refine xr_ic1 dX9_toGroup_94 ?_
      refine xr_iadd dX9_toGroup_95 ?_
      refine xr_putI dX9_toGroup_96 fp_9_278 lay_77 rfl ?_
      rw [k_1, nI_add]
      generalize hI2 : va_up I 77 (upd (I 77) 38 (nI (gs.length + 1))) = I2
      have z38 : I2 77 38 = nI (gs.length + 1) := by rw [← hI2, up_same, upd_same]
      have z102 : I2 102 = I 102 := by rw [← hI2, va_up_ne _ _ (by decide)]
      refine xr_aload0 dX9_toGroup_99 rfl ?_
      refine xr_getR dX9_toGroup_100 fk_9_88 lay_77 rfl ?_
      refine xr_iload dX9_toGroup_103 rfl ?_
      refine xr_aload0 dX9_toGroup_105 rfl ?_
      refine xr_getIv dX9_toGroup_106 fk_9_278 lay_77 rfl z38 ?_
      refine xr_iast s dX9_toGroup_109 lay_102 rfl hs (by decide) ?_
      generalize hI3 : va_up I2 102 (upd (I2 102) s (nI (gs.length + 1))) = I3
      refine xr_ic1 dX9_toGroup_110 ?_
      have f3 : mfx [102] [38] I I3 := by rw [← hI3, ← hI2]; exact (mfx.rf.up7 _ (by decide)).up _ (by decide) (by decide)
      refine xr_zret dX9_toGroup_111 rfl rfl (by simp) (Or.inr (Or.inr ⟨hm, rfl, ⟨?_, ?_, fun k hk => ?_, fun s' => if s' = s then gs.length + 1 else T s', fun s' hs' => ?_, ?_⟩, f3, fun a ha => va_up_ne _ _ ha⟩))
      · rw [← hI3, va_up_ne _ _ (by decide), z38]; simp
      · simp; omega
      · rw [up_same]
        rw [List.length_append, List.length_singleton] at hk
        rcases Nat.lt_or_ge k gs.length with q | q
        · rw [updL_ne _ _ (by omega), List.getElem_append_left q]; exact hJ k q
        · have : k = gs.length := by omega
          subst this
          rw [updL_same]
          simp
      · rw [← hI3, up_same, z102]
        show _ = nI (if s' = s then gs.length + 1 else T s')
        by_cases e : s' = s
        · rw [e, upd_same, if_pos rfl]
        · rw [upd_ne _ _ e, if_neg e]; exact hT s' hs'
      · rw [List.map_append]
        refine H.add w hjl (by rw [hsl]; exact h0) (by rw [hsl, if_pos rfl, List.length_map]) (fun s' hs' e => ?_)
        rw [hsl] at e
        rw [if_neg e]
    have hTp : 0 < T s := by
      rcases Nat.eq_zero_or_pos (T s) with q | q
      · exact absurd (by rw [q]; decide) hz
      · exact q
    obtain ⟨k, hk⟩ : ∃ k, T s = k + 1 := ⟨T s - 1, by omega⟩
    have hkl : k < gs.length := by omega
    have hJk := hJ k hkl
    have hsub : nI (T s) - 1 = nI k := by rw [k_1, pk_sub (by omega), hk]; rfl
    have hkk : (gs.map gKey)[k]? = some (gKey gs[k]) := by rw [List.getElem?_map, List.getElem?_eq_getElem hkl]; rfl
    refine xr_aload0 dX9_toGroup_23 rfl ?_
    refine xr_getR dX9_toGroup_24 fk_9_84 lay_77 rfl ?_
    refine xr_aload0 dX9_toGroup_27 rfl ?_
    refine xr_getR dX9_toGroup_28 fk_9_88 lay_77 rfl ?_
    refine xr_iload dX9_toGroup_31 rfl ?_
    refine xr_ialdv s dX9_toGroup_33 lay_102 rfl hs (by decide) hT1 ?_
    refine xr_ic1 dX9_toGroup_34 ?_
    refine xr_isub dX9_toGroup_35 ?_
    show xT _ _ _ 36 _ _ _ _
    refine xr_laldv k dX9_toGroup_36 lay_101 hsub (by omega) (by decide) hJk ?_
    refine xr_lload1 dX9_toGroup_37 rfl ?_
    refine xr_lcmp dX9_toGroup_38 ?_
    refine xr_if_eq 55 dX9_toGroup_39 (by decide) (fun heq => ?_) (fun heq => ?_)
    · have heq : gKey gs[k] = gKey g := (lg_cmp_eq _ _).mp heq
      refine xr_aload0 dX9_toGroup_55 rfl ?_
      refine xr_getR dX9_toGroup_56 fk_9_88 lay_77 rfl ?_
      refine xr_iload dX9_toGroup_59 rfl ?_
      refine xr_ialdv s dX9_toGroup_61 lay_102 rfl hs (by decide) hT1 ?_
      refine xr_if_le 67 dX9_toGroup_62 (by decide) (fun hz2 => ?_) (fun hz2 => ?_)
      · exact absurd hz2 hz
      refine xr_ic1 dX9_toGroup_65 ?_
      refine xr_zret dX9_toGroup_66 rfl rfl (by simp) (Or.inl ⟨?_, rfl, rfl, rfl⟩)
      rw [← heq]
      exact List.mem_map_of_mem (List.getElem_mem hkl)
    have heq : gKey gs[k] ≠ gKey g := fun q => heq ((lg_cmp_eq _ _).mpr q)
    refine xr_iload dX9_toGroup_42 rfl ?_
    refine xr_ic1 dX9_toGroup_44 ?_
    refine xr_iadd dX9_toGroup_45 ?_
    refine xr_sip si_8192 dX9_toGroup_46 ?_
    refine xr_irem dX9_toGroup_49 (by decide) ?_
    rw [k_1, nI_add, k_8192, pk_rem (by omega) (by decide) (by decide), show (s + 1) % 8192 = (gSlot (gKey g) + (j + 1)) % 8192 by omega]
    refine xr_istore dX9_toGroup_50 (Nat.le_of_ble_eq_true rfl) ?_
    show xT _ _ _ 52 [_, _, _, _, _, _] _ _ _
    refine xr_goto 13 dX9_toGroup_52 (by decide) ?_
    exact IH (w.succ (k := k) (by rw [hsl]; exact hk) (by rw [hkk]; exact fun q => heq (Option.some.inj q))) z
  refine x_ent (by decide) (Nat.le_of_ble_eq_true rfl) rfl ?_
  show xT _ _ _ 0 [_, _, _, _, _, _] _ _ _
  refine xr_lload1 dX9_toGroup_0 rfl ?_
  refine xr_ldc2 cs_9_276 dX9_toGroup_1 ?_
  refine xr_lmul dX9_toGroup_4 ?_
  refine xr_lstore3 dX9_toGroup_5 (Nat.le_of_ble_eq_true rfl) ?_
  show xT _ _ _ 6 [_, _, _, _, _, _] _ _ _
  refine xr_lload3 dX9_toGroup_6 rfl ?_
  refine xr_bip bi_51 dX9_toGroup_7 ?_
  refine xr_lushr dX9_toGroup_9 ?_
  have he : (((gKey g * -7046029254386353131).toUInt64 >>> ((51 : Int32).toInt64.toUInt64 &&& Int64.toUInt64 63)).toInt64).toInt32 = nI ((gSlot (gKey g) + 0) % 8192) := by
    have h1 : uN ((gKey g * -7046029254386353131).toUInt64 >>> ((51 : Int32).toInt64.toUInt64 &&& Int64.toUInt64 63)).toInt64 = gSlot (gKey g) := by rw [k_51, uN_shr _ (by decide)]; rfl
    have h2 := gSlot_lt (gKey g)
    rw [l2i_lN (by rw [h1]; omega), h1, Nat.add_zero, Nat.mod_eq_of_lt h2]
  refine xr_l2i dX9_toGroup_10 ?_
  rw [he]
  refine xr_istore dX9_toGroup_11 (Nat.le_of_ble_eq_true rfl) ?_
  show xT _ _ _ 13 [_, _, _, _, _, _] _ _ _
  exact L 0 (by decide) hWalk.zero _
theorem gOk.d16 {N : Nat} {g : List Nat} (h : gOk N g) (hN : N ≤ 16) : d16 g := fun x hx => by have := h.2 x hx; omega
theorem gKey_inj {N : Nat} {a b : List Nat} (hN : N ≤ 16) (ha : gOk N a) (hb : gOk N b) (h : gKey a = gKey b) : a = b :=
  p4_inj (ha.d16 hN) (hb.d16 hN) (by rw [ha.1, hb.1]) (lN_inj (p4_64 (ha.d16 hN) (by rw [ha.1]; exact hN)) (p4_64 (hb.d16 hN) (by rw [hb.1]; exact hN)) h)
theorem c9_made {M : xMac} {n : Nat} (hM : mOk M) (hwh : mWhole M) (hLv : mLv I M n) (hN : mK M ^ n ≤ 16) {g : List Nat} (hg : gOk (mK M ^ n) g) {t : Nat} (ht : t < (mMarks M).length) : xCon G M_X9_made [.ref (G.1 77), .long (gKey g), .int (nI t)] I J (xpl fun v I' J' => v = gKey (g.map (mkp M n (mMarks M)[t])) ∧ I = I' ∧ J = J') := by
  have hml := mMarks_len M
  have hN8 := hM.2.2.1
  have hmk := mMarks_ok M _ (List.getElem_mem ht)
  obtain ⟨h28, -, h96⟩ := hLv
  have h96 := h96 t ht
  generalize hf : mkp M n (mMarks M)[t] = f at *
  have hfl : ∀ x, f x < mK M ^ n := fun x => by rw [← hf]; exact mkp_lt hM hwh hmk
  have hd := hg.d16 hN
  have hgl := hg.1
  have L : ∀ p, p ≤ g.length → ∀ z7 : Option Value, xT G M_X9_made (xMQ G (xpl fun v I' J' => v = gKey (g.map f) ∧ I = I' ∧ J = J')) 6 [some (.ref (G.1 77)), some (.long (gKey g)), none, some (.int (nI t)), some (.long (gKey ((g.take p).map f))), none, some (.int (nI p)), z7] [] I J := by
    refine x_for (fun p hp IH z7 => ?_)
    refine xr_iload dX9_made_6 rfl ?_
    refine xr_aload0 dX9_made_8 rfl ?_
    refine xr_getIv dX9_made_9 fk_9_226 lay_77 rfl h28 ?_
    refine xr_icmp_ge 58 dX9_made_12 (by decide) (fun hc => ?_) (fun hc => ?_)
    · have : p = g.length := by have := nle hc; omega
      subst this
      refine xr_lload dX9_made_58 rfl ?_
      refine xr_lret dX9_made_60 rfl rfl ⟨by rw [List.take_length], rfl, rfl⟩
    have hpl : p < g.length := by have := nlt hc; omega
    have IH := IH hpl
    have hgp := hg.2 _ (List.getElem_mem hpl)
    have hdig : (((gKey g).toUInt64 >>> ((nI 4 * nI p).toInt64.toUInt64 &&& Int64.toUInt64 63)).toInt64 &&& 15).toInt32 = nI g[p] := by
      rw [l_and15, pk_mul]
      congr 1
      exact key_get hd (by omega) hpl
    have hpush : gKey ((g.take p).map f) ||| ((nI (f g[p])).toInt64 <<< ((nI 4 * nI p).toInt64 &&& 63)) = gKey ((g.take (p + 1)).map f) := by
      have h1 : d16 ((g.take p).map f) := fun y hy => by
        obtain ⟨x, _, rfl⟩ := List.mem_map.mp hy
        have := hfl x
        omega
      have h2 : ((g.take p).map f).length = p := by rw [List.length_map, List.length_take]; omega
      have h3 := key_push h1 (by omega) (x := f g[p]) (by have := hfl g[p]; omega)
      rw [h2] at h3
      rw [pk_mul]
      refine h3.trans ?_
      rw [List.take_succ_eq_append_getElem hpl, List.map_append]
      rfl
    refine xr_lload1 dX9_made_15 rfl ?_
    refine xr_ic4 dX9_made_16 ?_
    refine xr_iload dX9_made_17 rfl ?_
    refine xr_imul dX9_made_19 ?_
    refine xr_lushr dX9_made_20 ?_
    refine xr_ldc2 cs_9_281 dX9_made_21 ?_
    refine xr_land dX9_made_24 ?_
    refine xr_l2i dX9_made_25 ?_
    show xT _ _ _ 26 _ _ _ _
    rw [k_4, hdig]
    refine xr_istore dX9_made_26 (Nat.le_of_ble_eq_true rfl) ?_
    show xT _ _ _ 28 [_, _, _, _, _, _, _, _] _ _ _
    refine xr_lload dX9_made_28 rfl ?_
    refine xr_aload0 dX9_made_30 rfl ?_
    refine xr_getR dX9_made_31 fk_9_69 lay_77 rfl ?_
    refine xr_sip si_256 dX9_made_34 ?_
    refine xr_iload3 dX9_made_37 rfl ?_
    refine xr_imul dX9_made_38 ?_
    refine xr_iload dX9_made_39 rfl ?_
    show xT _ _ _ 41 _ _ _ _
    refine xr_iadd dX9_made_41 ?_
    refine xr_ialdv _ dX9_made_42 lay_96 (by (try simp only [k_0, k_1, k_2, k_3, k_4, k_5, k_8, k_16, k_34, k_40, k_200, k_201, k_256, k_512, nI_add, pk_mul]); first | done | rfl) (by omega) (by decide) (h96 g[p] hgp) ?_
    refine xr_i2l dX9_made_43 ?_
    refine xr_ic4 dX9_made_44 ?_
    refine xr_iload dX9_made_45 rfl ?_
    refine xr_imul dX9_made_47 ?_
    refine xr_lshl dX9_made_48 ?_
    refine xr_lor dX9_made_49 ?_
    rw [k_4, hpush]
    refine xr_lstore dX9_made_50 (Nat.le_of_ble_eq_true rfl) ?_
    show xT _ _ _ 52 [_, _, _, _, _, _, _, _] _ _ _
    refine xr_iinc dX9_made_52 rfl ii_1 (Nat.le_of_ble_eq_true rfl) ?_
    show xT _ _ _ 55 [_, _, _, _, _, _, _, _] _ _ _
    refine xr_goto 6 dX9_made_55 (by decide) ?_
    rw [k_1, nI_add]
    exact IH _
  refine x_ent (by decide) (Nat.le_of_ble_eq_true rfl) rfl ?_
  show xT _ _ _ 0 [_, _, _, _, _, _, _, _] _ _ _
  refine xr_lc0 dX9_made_0 ?_
  refine xr_lstore dX9_made_1 (Nat.le_of_ble_eq_true rfl) ?_
  show xT _ _ _ 3 [_, _, _, _, _, _, _, _] _ _ _
  refine xr_ic0 dX9_made_3 ?_
  refine xr_istore dX9_made_4 (Nat.le_of_ble_eq_true rfl) ?_
  show xT _ _ _ 6 [_, _, _, _, _, _, _, _] _ _ _
  exact L 0 (Nat.zero_le _) _
theorem c9_group {S : xSt} (n : Int32) (h : mIv I S) : xCon G M_X9_group [.ref (G.1 77), .int n] I J (xpi fun v I' J' => v = sp_group S n ∧ mIv I' S ∧ mfr I J I' J') := by
  refine x_ent (by decide) (Nat.le_of_ble_eq_true rfl) rfl ?_
  show xT _ _ _ 0 [_, _, _, _, _, _, _] _ _ _
  refine xr_aload0 dX9_group_0 rfl ?_
  refine xr_iload1 dX9_group_1 rfl ?_
  refine xr_bip bi_16 dX9_group_2 ?_
  rw [k_16]
  refine xr_cVi [_, _] dX9_group_4 (xcv_of cf_X9_rowsOf ml_9_223 (by decide)) rfl lay_77 rfl rfl rfl (Nat.le_of_ble_eq_true rfl) (c9_rowsOf h.2.1 n (by decide) (by decide)) (fun v I1 J1 hc => ?_)
  obtain ⟨rfl, rfl, rfl⟩ := hc
  cases hl : lvl (mK S.2.1) n 16 with
  | none =>
    have e : sp_group S n = -1 := by unfold sp_group; rw [hl]
    refine xr_if_ge 12 dX9_group_7 (by decide) (fun hge => ?_) (fun hge => ?_)
    · exact absurd hge (show ¬ (0 : Int32) ≤ -1 by decide)
    refine xr_icm1 dX9_group_10 ?_
    refine xr_iret dX9_group_11 rfl rfl ⟨by rw [e], h, mfr.rf⟩
  | some n' =>
  obtain ⟨rfl, hn⟩ := lvl_some hl
  have hK2 := h.2.1.1.1
  have hml := mMarks_len S.2.1
  have hN8 := h.2.1.1.2.2.1
  refine xr_if_ge 12 dX9_group_7 (by decide) (fun hge => ?_) (fun hge => ?_)
  rotate_left
  · exact absurd (nI_pos' (by omega)) hge
  refine xr_aload0 dX9_group_12 rfl ?_
  refine xr_cVi [] dX9_group_13 (xcv_of cf_X9_isWhole ml_9_133 (by decide)) rfl lay_77 rfl rfl rfl (Nat.le_of_ble_eq_true rfl) (c9_isWhole h.2.1) (fun v I2 J2 hc => ?_)
  obtain ⟨rfl, rfl, rfl⟩ := hc
  refine xr_if_ne 22 dX9_group_16 (by decide) (fun hwh => ?_) (fun hwh => ?_)
  rotate_left
  · have hwh := b2_0.mp hwh
    refine xr_bip bi_m5 dX9_group_19 ?_
    refine xr_iret dX9_group_21 rfl rfl ⟨by simp [sp_group, hl, hwh], h, mfr.rf⟩
  have hwh : mW S.2.1 = true := by
    cases hq : mW S.2.1 with
    | true => rfl
    | false => rw [hq] at hwh; exact absurd rfl hwh
  have hwhole := mW_iff.mp hwh
  have hM := h.2.1.1
  refine xr_aload0 dX9_group_22 rfl ?_
  refine xr_iload1 dX9_group_23 rfl ?_
  refine xr_cVv [_] dX9_group_24 (xcv_of cf_X9_findLevel ml_9_244 (by decide)) rfl lay_77 rfl rfl rfl (Nat.le_of_ble_eq_true rfl) (c9_findLevel h.2.1 hwhole (by omega)) (fun I0 J0 hc => ?_)
  obtain ⟨l0, f0, rfl⟩ := hc
  have hI0 : mIv I0 S := f0.iv h (by decide) (by decide)
  have fr0 := f0.fr (J := J) (by decide) rfl
  have lv1 : ∀ {I1}, mfx [85, 102, 103] [38] I0 I1 → mLv I1 S.2.1 n' := fun f1 => ⟨by rw [f1.2 28 (by decide)]; exact l0.1, ⟨by rw [f1.2 11 (by decide)]; exact l0.2.1.1, by rw [f1.1 86 (by decide) (by decide)]; exact l0.2.1.2⟩, by rw [f1.1 96 (by decide) (by decide)]; exact l0.2.2⟩
  have fin : ∀ {I1 J1}, mfx [85, 102, 103] [38] I0 I1 → (∀ a, a ≠ 101 → J1 a = J a) → mIv I1 S ∧ mfr I J I1 J1 := fun f1 j1 => ⟨f1.iv hI0 (by decide) (by decide), fun q hq => ⟨((f1.fr (J := J) (by decide) rfl) q hq).1.trans (fr0 q hq).1, j1 q (by omega)⟩⟩
  have hbk : ∀ t (ht : t < (mMarks S.2.1).length), (mMarks S.2.1)[t] < 16 := fun t ht => by
    have := (mMarks_ok S.2.1 _ (List.getElem_mem ht)).1
    omega
  have L5 : ∀ q, q ≤ 3000 → ∀ I1 J1 (gs : List (List Nat)) (z2 : Int64) (z4 : Int32) (z6 : Option Value), mfx [85, 102, 103] [38] I0 I1 → (∀ a, a ≠ 101 → J1 a = J a) → (∀ t (ht : t < (mMarks S.2.1).length), I1 103 t = b2 (mB S.2.1 ((mMarks S.2.1)[t] / 2))) → mGp I1 J1 gs → (∀ g ∈ gs, gIn S.2.1 n' g) → q ≤ gs.length → List.range (mK S.2.1 ^ n') ∈ gs → (∀ k (hk : k < gs.length), k < q → ∀ m ∈ mMarks S.2.1, mBack S.2.1 (m / 2) → gs[k].map (mkp S.2.1 n' m) ∈ gs) → xT G M_X9_group (xMQ G (xpi fun v I' J' => v = sp_group S (nI n') ∧ mIv I' S ∧ mfr I J I' J')) 130 [some (.ref (G.1 77)), some (.int (nI n')), some (.long z2), none, some (.int z4), some (.int (nI q)), z6] [] I1 J1 := by
    refine x_for (fun q hq IH I1 J1 gs z2 z4 z6 f1 j1 bk1 gp1 gin hql one clo => ?_)
    have hgl := gp1.2.1
    refine xr_iload dX9_group_130 rfl ?_
    refine xr_aload0 dX9_group_132 rfl ?_
    refine xr_getIv dX9_group_133 fk_9_278 lay_77 rfl gp1.1 ?_
    refine xr_icmp_ge 196 dX9_group_136 (by decide) (fun hc => ?_) (fun hc => ?_)
    · have : q = gs.length := by have := nle hc; omega
      subst this
      have hnd : gs.Nodup := by
        obtain ⟨-, -, -, T, -, H⟩ := gp1
        have := H.1
        exact (List.pairwise_map.mp this).imp (fun hne e => hne (by rw [e]))
      have hGp : isGp S.2.1 n' gs := ⟨hnd, fun g => ⟨gin g, fun hg => hg.ind (P := fun g => g ∈ gs) one (fun g m hg hm hb => by
        obtain ⟨k, hk, rfl⟩ := List.getElem_of_mem hg
        exact clo k hk hk m hm hb)⟩⟩
      refine xr_aload0 dX9_group_196 rfl ?_
      refine xr_getIv dX9_group_197 fk_9_278 lay_77 rfl gp1.1 ?_
      refine xr_iret dX9_group_200 rfl rfl ⟨?_, (fin f1 j1).1, (fin f1 j1).2⟩
      simp [sp_group, hl, hwh, gN_some hGp hgl]
    have hqg := nlt hc
    have IH := IH (by omega)
    have Lt : ∀ t, t ≤ (mMarks S.2.1).length → ∀ I1 J1 (gs : List (List Nat)), mfx [85, 102, 103] [38] I0 I1 → (∀ a, a ≠ 101 → J1 a = J a) → (∀ t (ht : t < (mMarks S.2.1).length), I1 103 t = b2 (mB S.2.1 ((mMarks S.2.1)[t] / 2))) → mGp I1 J1 gs → (∀ g ∈ gs, gIn S.2.1 n' g) → (hqg : q < gs.length) → List.range (mK S.2.1 ^ n') ∈ gs → (∀ k (hk : k < gs.length), k < q → ∀ m ∈ mMarks S.2.1, mBack S.2.1 (m / 2) → gs[k].map (mkp S.2.1 n' m) ∈ gs) → (∀ t' (ht' : t' < (mMarks S.2.1).length), t' < t → mBack S.2.1 ((mMarks S.2.1)[t'] / 2) → gs[q].map (mkp S.2.1 n' (mMarks S.2.1)[t']) ∈ gs) → xT G M_X9_group (xMQ G (xpi fun v I' J' => v = sp_group S (nI n') ∧ mIv I' S ∧ mfr I J I' J')) 142 [some (.ref (G.1 77)), some (.int (nI n')), some (.long z2), none, some (.int z4), some (.int (nI q)), some (.int (nI t))] [] I1 J1 := by
      refine x_for (fun t ht IHt I1 J1 gs f1 j1 bk1 gp1 gin hqg one clo clt => ?_)
      refine xr_iload dX9_group_142 rfl ?_
      refine xr_aload0 dX9_group_144 rfl ?_
      refine xr_getIv dX9_group_145 fk_9_127 lay_77 rfl (lv1 f1).2.1.1 ?_
      refine xr_icmp_ge 190 dX9_group_148 (by decide) (fun hc => ?_) (fun hc => ?_)
      · have : t = (mMarks S.2.1).length := by have := nle hc; omega
        subst this
        refine xr_iinc dX9_group_190 rfl ii_1 (Nat.le_of_ble_eq_true rfl) ?_
        show xT _ _ _ 193 [_, _, _, _, _, _, _] _ _ _
        refine xr_goto 130 dX9_group_193 (by decide) ?_
        rw [k_1, nI_add]
        refine IH I1 J1 gs z2 z4 _ f1 j1 bk1 gp1 gin (by omega) one (fun k hk hk2 m hm hb => ?_)
        rcases Nat.lt_or_ge k q with g | g
        · exact clo k hk g m hm hb
        · have : k = q := by omega
          subst this
          obtain ⟨t', ht', rfl⟩ := List.getElem_of_mem hm
          exact clt t' ht' ht' hb
      have htl := nlt hc
      have IHt := IHt htl
      refine xr_aload0 dX9_group_151 rfl ?_
      refine xr_getR dX9_group_152 fk_9_91 lay_77 rfl ?_
      refine xr_iload dX9_group_155 rfl ?_
      refine xr_zaldv t dX9_group_157 lay_103 rfl (by omega) (by decide) (bk1 t htl) ?_
      refine xr_if_eq 184 dX9_group_158 (by decide) (fun hz => ?_) (fun hz => ?_)
      · have hz := mB_f.mp (b2_0.mp hz)
        refine xr_iinc dX9_group_184 rfl ii_1 (Nat.le_of_ble_eq_true rfl) ?_
        show xT _ _ _ 187 [_, _, _, _, _, _, _] _ _ _
        refine xr_goto 142 dX9_group_187 (by decide) ?_
        rw [k_1, nI_add]
        refine IHt I1 J1 gs f1 j1 bk1 gp1 gin hqg one clo (fun t' ht' hlt hb => ?_)
        rcases Nat.lt_or_ge t' t with g | g
        · exact clt t' ht' g hb
        · have : t' = t := by omega
          subst this
          exact absurd hb hz
      have hz : mBack S.2.1 ((mMarks S.2.1)[t] / 2) := by
        cases hq : mB S.2.1 ((mMarks S.2.1)[t] / 2) with
        | true => exact mB_iff.mp hq
        | false => rw [hq] at hz; exact absurd rfl hz
      have hgq := gin _ (List.getElem_mem hqg)
      have hnew := hgq.step (List.getElem_mem htl) hz
      have hinj : gKey (gs[q].map (mkp S.2.1 n' (mMarks S.2.1)[t])) ∈ gs.map gKey → gs[q].map (mkp S.2.1 n' (mMarks S.2.1)[t]) ∈ gs := fun hm => by
        obtain ⟨g', hg', e⟩ := List.mem_map.mp hm
        rw [← gKey_inj hn ((gin g' hg').ok hM hwhole) (hnew.ok hM hwhole) e]
        exact hg'
      have hqj := gp1.2.2.1 q hqg
      have hgl := gp1.2.1
      refine xr_aload0 dX9_group_161 rfl ?_
      refine xr_aload0 dX9_group_162 rfl ?_
      refine xr_aload0 dX9_group_163 rfl ?_
      refine xr_getR dX9_group_164 fk_9_84 lay_77 rfl ?_
      refine xr_iload dX9_group_167 rfl ?_
      refine xr_laldv q dX9_group_169 lay_101 rfl (by omega) (by decide) hqj ?_
      refine xr_iload dX9_group_170 rfl ?_
      refine xr_cVl [_, _] dX9_group_172 (xcv_of cf_X9_made ml_9_287 (by decide)) rfl lay_77 rfl rfl rfl (Nat.le_of_ble_eq_true rfl) (c9_made hM hwhole (lv1 f1) hn (hgq.ok hM hwhole) htl) (fun v I2 J2 hc2 => ?_)
      obtain ⟨rfl, rfl, rfl⟩ := hc2
      refine xr_cVi [_] dX9_group_175 (xcv_of cf_X9_toGroup ml_9_283 (by decide)) rfl lay_77 rfl rfl rfl (Nat.le_of_ble_eq_true rfl) (c9_toGroup _ gp1) (fun v I2 J2 hc2 => ?_)
      have clt' : ∀ gs' : List (List Nat), ∀ (hp : ∀ g ∈ gs, g ∈ gs') (e : ∀ (hq' : q < gs'.length), gs'[q] = gs[q]) (hq' : q < gs'.length), gs[q].map (mkp S.2.1 n' (mMarks S.2.1)[t]) ∈ gs' → ∀ t' (ht' : t' < (mMarks S.2.1).length), t' < t + 1 → mBack S.2.1 ((mMarks S.2.1)[t'] / 2) → gs'[q].map (mkp S.2.1 n' (mMarks S.2.1)[t']) ∈ gs' := fun gs' hp e hq' hn' t' ht' hlt hb => by
        rw [e hq']
        rcases Nat.lt_or_ge t' t with g | g
        · exact hp _ (clt t' ht' g hb)
        · have : t' = t := by omega
          subst this
          exact hn'
      rcases hc2 with ⟨hm, rfl, rfl, rfl⟩ | ⟨hm, hfull, rfl, rfl, rfl⟩ | ⟨hm, rfl, gp2, f2, j2⟩
      · skip
        refine xr_if_ne 184 dX9_group_178 (by decide) (fun hz2 => ?_) (fun hz2 => ?_)
        rotate_left
        · exact absurd hz2 (by decide)
        refine xr_iinc dX9_group_184 rfl ii_1 (Nat.le_of_ble_eq_true rfl) ?_
        show xT _ _ _ 187 [_, _, _, _, _, _, _] _ _ _
        refine xr_goto 142 dX9_group_187 (by decide) ?_
        rw [k_1, nI_add]
        exact IHt I1 J1 gs f1 j1 bk1 gp1 gin hqg one clo (clt' gs (fun g hg => hg) (fun _ => rfl) hqg (hinj hm))
      · skip
        refine xr_if_ne 184 dX9_group_178 (by decide) (fun hz2 => ?_) (fun hz2 => ?_)
        · exact absurd rfl hz2
        refine xr_bip bi_m7 dX9_group_181 ?_
        refine xr_iret dX9_group_183 rfl rfl ⟨?_, (fin f1 j1).1, (fin f1 j1).2⟩
        have hnone : gN S.2.1 n' = none := by
          refine gN_none (gs := gs ++ [gs[q].map (mkp S.2.1 n' (mMarks S.2.1)[t])]) ?_ (fun g hg => ?_) (by simp; omega)
          · obtain ⟨-, -, -, T, -, H⟩ := gp1
            rw [List.nodup_append]
            refine ⟨(List.pairwise_map.mp H.1).imp (fun hne e => hne (by rw [e])), by simp, fun a ha b hb e => hm ?_⟩
            rw [← List.mem_singleton.mp hb, ← e]
            exact List.mem_map_of_mem ha
          · rcases List.mem_append.mp hg with g1 | g1
            · exact gin g g1
            · rw [List.mem_singleton.mp g1]; exact hnew
        simp [sp_group, hl, hwh, hnone]
      · skip
        refine xr_if_ne 184 dX9_group_178 (by decide) (fun hz2 => ?_) (fun hz2 => ?_)
        rotate_left
        · exact absurd hz2 (by decide)
        refine xr_iinc dX9_group_184 rfl ii_1 (Nat.le_of_ble_eq_true rfl) ?_
        show xT _ _ _ 187 [_, _, _, _, _, _, _] _ _ _
        refine xr_goto 142 dX9_group_187 (by decide) ?_
        rw [k_1, nI_add]
        refine IHt I2 J2 _ (f1.tr (f2.mono (by simp) (by simp))) (fun a ha => (j2 a ha).trans (j1 a ha)) (fun t' ht' => by rw [f2.1 103 (by decide) (by decide)]; exact bk1 t' ht') gp2 (fun g hg => ?_) (by simp; omega) (List.mem_append_left _ one) (fun k hk hkq m hm' hb => ?_) (clt' _ (fun g hg => List.mem_append_left _ hg) (fun hq' => List.getElem_append_left hqg) (by simp; omega) (List.mem_append_right _ (List.mem_singleton.mpr rfl)))
        · rcases List.mem_append.mp hg with g1 | g1
          · exact gin g g1
          · rw [List.mem_singleton.mp g1]; exact hnew
        · have hk' : k < gs.length := by omega
          rw [List.getElem_append_left hk']
          exact List.mem_append_left _ (clo k hk' hkq m hm' hb)
    refine xr_ic0 dX9_group_139 ?_
    refine xr_istore dX9_group_140 (Nat.le_of_ble_eq_true rfl) ?_
    show xT _ _ _ 142 [_, _, _, _, _, _, _] _ _ _
    exact Lt 0 (Nat.zero_le _) I1 J1 gs f1 j1 bk1 gp1 gin hqg one clo (fun t' _ ht' => absurd ht' (Nat.not_lt_zero _))
  have L4 : ∀ s, s ≤ 8192 → ∀ I1 (z5 z6 : Option Value), mfx [85, 102, 103] [38] I0 I1 → (∀ t (ht : t < (mMarks S.2.1).length), I1 103 t = b2 (mB S.2.1 ((mMarks S.2.1)[t] / 2))) → (∀ s', s' < s → I1 102 s' = 0) → xT G M_X9_group (xMQ G (xpi fun v I' J' => v = sp_group S (nI n') ∧ mIv I' S ∧ mfr I J I' J')) 93 [some (.ref (G.1 77)), some (.int (nI n')), some (.long (gKey (List.range (mK S.2.1 ^ n')))), none, some (.int (nI s)), z5, z6] [] I1 J := by
    refine x_for (fun s hs IH I1 z5 z6 f1 bk1 c1 => ?_)
    refine xr_iload dX9_group_93 rfl ?_
    refine xr_sip si_8192 dX9_group_95 ?_
    refine xr_icmp_ge 115 dX9_group_98 (by decide) (fun hc => ?_) (fun hc => ?_)
    · have : s = 8192 := by have := nle (b := 8192) hc; omega
      subst this
      refine xr_aload0 dX9_group_115 rfl ?_
      refine xr_ic0 dX9_group_116 ?_
      refine xr_putI dX9_group_117 fp_9_278 lay_77 rfl ?_
      generalize hI2 : va_up I1 77 (upd (I1 77) 38 0) = I2
      have f2 : mfx [85, 102, 103] [38] I0 I2 := by rw [← hI2]; exact f1.up7 _ (by decide)
      have gp2 : mGp I2 J [] := ⟨by rw [← hI2, up_same, upd_same]; rfl, by decide, fun k hk => absurd hk (Nat.not_lt_zero _), fun _ => 0, fun s' hs' => by rw [← hI2, va_up_ne _ _ (by decide)]; exact c1 s' hs', hOk.nil (fun s' hs' => rfl)⟩
      refine xr_aload0 dX9_group_120 rfl ?_
      refine xr_lload2 dX9_group_121 rfl ?_
      refine xr_cVi [_] dX9_group_122 (xcv_of cf_X9_toGroup ml_9_283 (by decide)) rfl lay_77 rfl rfl rfl (Nat.le_of_ble_eq_true rfl) (c9_toGroup _ gp2) (fun v I3 J3 hc3 => ?_)
      rcases hc3 with ⟨hm, -⟩ | ⟨-, hm, -⟩ | ⟨hm, rfl, gp3, f3, j3⟩
      · simp at hm
      · simp at hm
      refine xr_istore dX9_group_125 (Nat.le_of_ble_eq_true rfl) ?_
      show xT _ _ _ 127 [_, _, _, _, _, _, _] _ _ _
      refine xr_ic0 dX9_group_127 ?_
      refine xr_istore dX9_group_128 (Nat.le_of_ble_eq_true rfl) ?_
      show xT _ _ _ 130 [_, _, _, _, _, _, _] _ _ _
      refine L5 0 (by decide) I3 J3 _ _ _ _ (f2.tr (f3.mono (by simp) (by simp))) j3 (fun t ht => ?_) gp3 (fun g hg => ?_) (Nat.zero_le _) (List.mem_singleton.mpr rfl) (fun k _ hk => absurd hk (Nat.not_lt_zero _))
      · rw [f3.1 103 (by decide) (by decide), ← hI2, va_up_ne _ _ (by decide)]; exact bk1 t ht
      · rw [List.mem_singleton.mp hg]; exact gIn.one _ _
    have hsl := nlt (b := 8192) hc
    refine xr_aload0 dX9_group_101 rfl ?_
    refine xr_getR dX9_group_102 fk_9_88 lay_77 rfl ?_
    refine xr_iload dX9_group_105 rfl ?_
    refine xr_ic0 dX9_group_107 ?_
    refine xr_iast s dX9_group_108 lay_102 rfl (by omega) (by decide) ?_
    refine xr_iinc dX9_group_109 rfl ii_1 (Nat.le_of_ble_eq_true rfl) ?_
    show xT _ _ _ 112 [_, _, _, _, _, _, _] _ _ _
    refine xr_goto 93 dX9_group_112 (by decide) ?_
    rw [k_1, nI_add]
    refine IH hsl _ _ _ (f1.up _ (by decide) (by decide)) (fun t ht => by rw [va_up_ne _ _ (by decide)]; exact bk1 t ht) (fun s' hs' => ?_)
    rw [up_same]
    by_cases e : s' = s
    · rw [e, upd_same]
    · rw [upd_ne _ _ e]; exact c1 s' (by omega)
  have L3 : ∀ p, p ≤ mK S.2.1 ^ n' → ∀ I1 (z5 z6 : Option Value), mfx [85, 102, 103] [38] I0 I1 → (∀ t (ht : t < (mMarks S.2.1).length), I1 103 t = b2 (mB S.2.1 ((mMarks S.2.1)[t] / 2))) → xT G M_X9_group (xMQ G (xpi fun v I' J' => v = sp_group S (nI n') ∧ mIv I' S ∧ mfr I J I' J')) 64 [some (.ref (G.1 77)), some (.int (nI n')), some (.long (gKey (List.range p))), none, some (.int (nI p)), z5, z6] [] I1 J := by
    refine x_for (fun p hp IH I1 z5 z6 f1 bk1 => ?_)
    refine xr_iload dX9_group_64 rfl ?_
    refine xr_aload0 dX9_group_66 rfl ?_
    refine xr_getIv dX9_group_67 fk_9_226 lay_77 rfl (lv1 f1).1 ?_
    refine xr_icmp_ge 90 dX9_group_70 (by decide) (fun hc => ?_) (fun hc => ?_)
    · have : p = mK S.2.1 ^ n' := by have := nle hc; omega
      subst this
      refine xr_ic0 dX9_group_90 ?_
      refine xr_istore dX9_group_91 (Nat.le_of_ble_eq_true rfl) ?_
      show xT _ _ _ 93 [_, _, _, _, _, _, _] _ _ _
      exact L4 0 (Nat.zero_le _) I1 _ _ f1 bk1 (fun s' hs' => absurd hs' (Nat.not_lt_zero _))
    have hpl := nlt hc
    have IH := IH hpl
    have hpush : gKey (List.range p) ||| ((nI p).toInt64 <<< ((nI 4 * nI p).toInt64 &&& 63)) = gKey (List.range (p + 1)) := by
      have h3 := key_push (l := List.range p) (fun x hx => by have := List.mem_range.mp hx; omega) (by rw [List.length_range]; omega) (x := p) (by omega)
      rw [List.length_range] at h3
      rw [pk_mul, List.range_succ]
      exact h3
    refine xr_lload2 dX9_group_73 rfl ?_
    refine xr_iload dX9_group_74 rfl ?_
    refine xr_i2l dX9_group_76 ?_
    refine xr_ic4 dX9_group_77 ?_
    refine xr_iload dX9_group_78 rfl ?_
    refine xr_imul dX9_group_80 ?_
    refine xr_lshl dX9_group_81 ?_
    refine xr_lor dX9_group_82 ?_
    show xT _ _ _ 83 _ _ _ _
    rw [k_4, hpush]
    refine xr_lstore2 dX9_group_83 (Nat.le_of_ble_eq_true rfl) ?_
    show xT _ _ _ 84 [_, _, _, _, _, _, _] _ _ _
    refine xr_iinc dX9_group_84 rfl ii_1 (Nat.le_of_ble_eq_true rfl) ?_
    show xT _ _ _ 87 [_, _, _, _, _, _, _] _ _ _
    refine xr_goto 64 dX9_group_87 (by decide) ?_
    rw [k_1, nI_add]
    exact IH I1 _ _ f1 bk1
  have L2 : ∀ t, t ≤ (mMarks S.2.1).length → ∀ I1 (z3 z4 z5 z6 : Option Value), mfx [85, 102, 103] [38] I0 I1 → (∀ t' (ht : t' < (mMarks S.2.1).length), t' < t → I1 103 t' = b2 (mB S.2.1 ((mMarks S.2.1)[t'] / 2))) → xT G M_X9_group (xMQ G (xpi fun v I' J' => v = sp_group S (nI n') ∧ mIv I' S ∧ mfr I J I' J')) 29 [some (.ref (G.1 77)), some (.int (nI n')), some (.int (nI t)), z3, z4, z5, z6] [] I1 J := by
    refine x_for (fun t ht IH I1 z3 z4 z5 z6 f1 bk1 => ?_)
    refine xr_iload2 dX9_group_29 rfl ?_
    refine xr_aload0 dX9_group_30 rfl ?_
    refine xr_getIv dX9_group_31 fk_9_127 lay_77 rfl (lv1 f1).2.1.1 ?_
    refine xr_icmp_ge 59 dX9_group_34 (by decide) (fun hc => ?_) (fun hc => ?_)
    · have : t = (mMarks S.2.1).length := by have := nle hc; omega
      subst this
      refine xr_lc0 dX9_group_59 ?_
      refine xr_lstore2 dX9_group_60 (Nat.le_of_ble_eq_true rfl) ?_
      show xT _ _ _ 61 [_, _, _, _, _, _, _] _ _ _
      refine xr_ic0 dX9_group_61 ?_
      refine xr_istore dX9_group_62 (Nat.le_of_ble_eq_true rfl) ?_
      show xT _ _ _ 64 [_, _, _, _, _, _, _] _ _ _
      exact L3 0 (Nat.zero_le _) I1 _ _ f1 (fun t ht => bk1 t ht ht)
    have htl := nlt hc
    have v86 : I1 86 t = tok (mMarks S.2.1)[t] := by
      have := (lv1 f1).2.1.2 t htl
      rw [Nat.zero_add] at this
      exact this
    refine xr_aload0 dX9_group_37 rfl ?_
    refine xr_getR dX9_group_38 fk_9_91 lay_77 rfl ?_
    refine xr_iload2 dX9_group_41 rfl ?_
    refine xr_aload0 dX9_group_42 rfl ?_
    refine xr_aload0 dX9_group_43 rfl ?_
    refine xr_getR dX9_group_44 fk_9_39 lay_77 rfl ?_
    refine xr_iload2 dX9_group_47 rfl ?_
    refine xr_ialdv t dX9_group_48 lay_86 rfl (by omega) (by decide) v86 ?_
    show xT _ _ _ 49 _ _ _ _
    refine xr_cVi [_] dX9_group_49 (xcv_of cf_X9_isTokenBack ml_9_235 (by decide)) rfl lay_77 rfl rfl rfl (Nat.le_of_ble_eq_true rfl) (c9_isTokenBack (f1.mach hI0.2.1 (by decide) (by decide)) (hbk t htl)) (fun v I3 J3 hc3 => ?_)
    obtain ⟨rfl, ⟨f, rfl⟩, rfl⟩ := hc3
    have f3 := f1.up (k := 85) f (by decide) (by decide)
    have c3 : ∀ t' (ht : t' < (mMarks S.2.1).length), t' < t → va_up I1 85 f 103 t' = b2 (mB S.2.1 ((mMarks S.2.1)[t'] / 2)) := fun t' ht' hlt => by rw [va_up_ne _ _ (by decide)]; exact bk1 t' ht' hlt
    generalize va_up I1 85 f = I3 at f3 c3 ⊢
    refine xr_zast t dX9_group_52 lay_103 rfl (by omega) (by decide) (b2_01 _) ?_
    refine xr_iinc dX9_group_53 rfl ii_1 (Nat.le_of_ble_eq_true rfl) ?_
    show xT _ _ _ 56 [_, _, _, _, _, _, _] _ _ _
    refine xr_goto 29 dX9_group_56 (by decide) ?_
    rw [k_1, nI_add]
    refine IH htl _ _ _ _ _ (f3.up _ (by decide) (by decide)) (fun t' ht' hlt => ?_)
    rw [up_same]
    by_cases e : t' = t
    · subst e; rw [upd_same]
    · rw [upd_ne _ _ e]; exact c3 t' ht' (by omega)
  refine xr_ic0 dX9_group_27 ?_
  refine xr_istore2 dX9_group_28 (Nat.le_of_ble_eq_true rfl) ?_
  show xT _ _ _ 29 [_, _, _, _, _, _, _] _ _ _
  exact L2 0 (Nat.zero_le _) I0 _ _ _ _ mfx.rf (fun t' _ ht' => absurd ht' (Nat.not_lt_zero _))
end M36
