section C16
variable {G : xG} {I : xI} {J : xJ}
-- pools of words
def isPl (p : Nat) : Prop := lay p = .inl (4, [.inl (p + 1), .inl (p + 5), .inl (p + 9), .inl (p + 10), .inl (p + 11), .inl (p + 12), .inl (p + 13), .inl (p + 14), .inr false, .inr false, .inr false, .inr false, .inr false]) ∧ isKT (p + 1) 200 512 ∧ isKT (p + 5) 200 512 ∧ lay (p + 9) = .inr (0, 800, fun _ => 0) ∧ lay (p + 10) = .inr (0, 200, fun _ => 0) ∧ lay (p + 11) = .inr (0, 200, fun _ => 0) ∧ lay (p + 12) = .inr (0, 200, fun _ => 0) ∧ lay (p + 13) = .inr (0, 2800, fun _ => 0) ∧ isW (p + 14)
theorem isPl_41 : isPl 41 := ⟨rfl, ⟨rfl, rfl, rfl, rfl⟩, ⟨rfl, rfl, rfl, rfl⟩, rfl, rfl, rfl, rfl, rfl, rfl⟩
theorem isPl_57 : isPl 57 := ⟨rfl, ⟨rfl, rfl, rfl, rfl⟩, ⟨rfl, rfl, rfl, rfl⟩, rfl, rfl, rfl, rfl, rfl, rfl⟩
theorem kZ_p : kZ 200 512 9 := ⟨rfl, by decide, by decide⟩
def wk (ws : List Nat) : kK := (lN (p4 ws), nI ws.length)
theorem wk_inj {a b : List Nat} (ha : w16 a) (hb : w16 b) (h : wk a = wk b) : a = b := by
  have h1 := congrArg Prod.fst h
  have h2 := congrArg Prod.snd h
  have la := ha.1
  have lb := hb.1
  have hl : a.length = b.length := (nI_eq (by omega) (by omega)).mp h2
  exact p4_inj ha.2 hb.2 hl (lN_inj (p4_64 ha.2 ha.1) (p4_64 hb.2 hb.1) h1)
def pWd (I : xI) (J : xJ) (p : Nat) (hs : List (List Nat)) : Prop := kT I J (p + 1) 200 512 (hs.map wk) ∧ ∀ a ∈ hs, w16 a
theorem pWd.len {p : Nat} {hs : List (List Nat)} (h : pWd I J p hs) : hs.length ≤ 200 ∧ I (p + 1) 3 = nI hs.length := by
  obtain ⟨⟨st, V, h1, h2, -⟩, -⟩ := h
  rw [List.length_map] at h1 h2
  exact ⟨h2, h1⟩
theorem pWd.nodup {p : Nat} {hs : List (List Nat)} (h : pWd I J p hs) : hs.Nodup := by
  obtain ⟨⟨st, V, h⟩, -⟩ := h
  exact (List.pairwise_map.mp h.2.2.2.2.2.2.2.1).imp (fun hne e => hne (by rw [e]))
theorem pWd.at {p : Nat} {hs : List (List Nat)} (h : pWd I J p hs) {i : Nat} (hi : i < hs.length) : J (p + 1 + 1) i = lN (p4 hs[i]) ∧ I (p + 1 + 2) i = nI hs[i].length := by
  obtain ⟨⟨st, V, h⟩, -⟩ := h
  have := h.2.2.2.2.2.1 i (by rw [List.length_map]; exact hi)
  rw [List.getElem_map] at this
  exact this
theorem pl_add {p : Nat} (hp : isPl p) {hs : List (List Nat)} (h : pWd I J p hs) {ws : List Nat} (hw : w16 ws) : xCon G M_X0_add [.ref (G.1 (p + 1)), .long (lN (p4 ws)), .int (nI ws.length)] I J (xpi fun v I' J' => (∃ i, hs[i]? = some ws ∧ v = nI i ∧ I = I' ∧ J = J') ∨ (ws ∉ hs ∧ hs.length = 200 ∧ v = -1 ∧ I = I' ∧ J = J') ∨ (ws ∉ hs ∧ hs.length < 200 ∧ v = nI hs.length ∧ pWd I' J' p (hs ++ [ws]) ∧ cfx [p + 1, p + 1 + 1, p + 1 + 2, p + 1 + 3] I J I' J')) := by
  have hmem : ∀ {l : List (List Nat)}, (∀ a ∈ l, w16 a) → (wk ws ∈ l.map wk ↔ ws ∈ l) := fun {l} hl => ⟨fun q => by
    obtain ⟨a, ha, e⟩ := List.mem_map.mp q
    rw [← wk_inj (hl a ha) hw e]; exact ha, fun q => List.mem_map_of_mem q⟩
  refine (c0_add hp.2.1 kZ_p h.1 (lN (p4 ws)) (nI ws.length)).mono (fun r I' J' hq => ?_)
  obtain ⟨v, rfl, hq⟩ := hq
  refine ⟨v, rfl, ?_⟩
  rw [List.length_map] at hq
  rcases hq with ⟨i, e, hv, hI, hJ⟩ | ⟨hm, hl, hv, hI, hJ⟩ | ⟨hm, hl, hv, hk, f⟩
  · refine Or.inl ⟨i, ?_, hv, hI, hJ⟩
    rw [List.getElem?_map] at e
    obtain ⟨a, ha, e2⟩ := Option.map_eq_some_iff.mp e
    rw [ha, wk_inj (h.2 a (List.mem_of_getElem? ha)) hw e2]
  · exact Or.inr (Or.inl ⟨fun q => hm ((hmem h.2).mpr q), hl, hv, hI, hJ⟩)
  · refine Or.inr (Or.inr ⟨fun q => hm ((hmem h.2).mpr q), hl, hv, ⟨?_, fun a ha => ?_⟩, f⟩)
    · rw [List.map_append]; exact hk
    · rcases List.mem_append.mp ha with q | q
      · exact h.2 a q
      · rw [List.mem_singleton.mp q]; exact hw
theorem c4_load {p : Nat} (hp : isPl p) {hs : List (List Nat)} (h : pWd I J p hs) {i : Nat} (hi : i < hs.length) {w : Nat} (hw : isW w) : xCon G M_X4_load [.ref (G.1 p), .int (nI i), .ref (G.1 w)] I J (xpv fun I' J' => cWd I' J' w hs[i] ∧ cfx [w] I J I' J') := by
  have hl := h.len.1
  obtain ⟨a1, a2⟩ := h.at hi
  refine x_ent (by decide) (Nat.le_of_ble_eq_true rfl) rfl ?_
  show xT _ _ _ 0 [_, _, _] _ _ _
  refine xr_aload2 dX4_load_0 rfl ?_
  refine xr_aload0 dX4_load_1 rfl ?_
  refine xr_getR dX4_load_2 fk_4_14 hp.1 rfl ?_
  refine xr_getR dX4_load_5 fk_4_76 hp.2.1.1 rfl ?_
  refine xr_iload1 dX4_load_8 rfl ?_
  refine xr_laldv i dX4_load_9 hp.2.1.2.1 rfl (by omega) (by first | decide | omega) a1 ?_
  refine xr_putJ dX4_load_10 fp_4_65 hw rfl ?_
  generalize hJ1 : va_up J w (vp_updL (J w) 0 (lN (p4 hs[i]))) = J1
  refine xr_aload2 dX4_load_13 rfl ?_
  refine xr_aload0 dX4_load_14 rfl ?_
  refine xr_getR dX4_load_15 fk_4_14 hp.1 rfl ?_
  refine xr_getR dX4_load_18 fk_4_80 hp.2.1.1 rfl ?_
  refine xr_iload1 dX4_load_21 rfl ?_
  refine xr_ialdv i dX4_load_22 hp.2.1.2.2.1 rfl (by omega) (by first | decide | omega) a2 ?_
  refine xr_putI dX4_load_23 fp_4_69 hw rfl ?_
  refine xr_vret dX4_load_26 rfl rfl ⟨⟨by rw [← hJ1, up_same, updL_same], by rw [up_same, upd_same]⟩, by rw [← hJ1]; exact (cfx.rf.upJ _ (by simp)).up _ (by simp)⟩
theorem isW.kt {w t n sz : Nat} (hw : isW w) (ht : isKT t n sz) : t ≠ w ∧ t + 1 ≠ w ∧ t + 2 ≠ w ∧ t + 3 ≠ w := ⟨hw.ne (fun fs h => by rw [ht.1] at h; cases h), hw.ne (fun fs h => by rw [ht.2.1] at h; cases h), hw.ne (fun fs h => by rw [ht.2.2.1] at h; cases h), hw.ne (fun fs h => by rw [ht.2.2.2] at h; cases h)⟩
theorem pWd.cg {I I' : xI} {J J' : xJ} {p : Nat} {hs : List (List Nat)} (h : pWd I J p hs) (e : ∀ a, p + 1 ≤ a → a ≤ p + 4 → I' a = I a ∧ J' a = J a) : pWd I' J' p hs := ⟨h.1.cg (fun a h1 h2 => e a h1 (by omega)), h.2⟩
def wrt (M : xMac) (w : List Nat) : Nat → Nat
  | 0 => 0
  | x + 1 => wrt M w x + wout M w x * 4 ^ x
theorem wrt_lt {M : xMac} (hM : mOk M) (hwh : mWhole M) {w : List Nat} (hw : wOk M w) : ∀ x, x ≤ mK M → wrt M w x < 4 ^ x
  | 0, _ => by simp [wrt]
  | x + 1, hx => by
    have h1 := wrt_lt hM hwh hw x (by omega)
    have h2 := wout_lt hM hwh hw (x := x) (by omega)
    have h3 := hM.2.1
    have h4 : wout M w x * 4 ^ x ≤ 3 * 4 ^ x := Nat.mul_le_mul_right _ (by omega)
    show wrt M w x + wout M w x * 4 ^ x < 4 ^ (x + 1)
    rw [Nat.pow_succ]
    omega
def pFo (I : xI) (M : xMac) (p : Nat) (hs : List (List Nat)) (f : Nat) : Prop := I p 9 = nI f ∧ f ≤ hs.length ∧ ∀ h (hh : h < hs.length), h < f → I (p + 10) h = nI (wrt M hs[h] (mK M)) ∧ ∀ x, x < mK M → ∃ j, I (p + 9) (4 * h + x) = nI j ∧ hs[j]? = some (wpart M hs[h] x)
theorem shl_w : ∀ x : Fin 4, ∀ o : Fin 4, nI o.1 <<< (nI (2 * x.1) &&& 31) = nI (o.1 * 4 ^ x.1) := by decide
theorem or_w {a x : Nat} {b : Nat} (h : a < 4 ^ x) (hx : x < 4) (hb : b < 4) : nI a ||| nI (b * 4 ^ x) = nI (a + b * 4 ^ x) := by
  have h1 : 4 ^ x ≤ 4 ^ 3 := Nat.pow_le_pow_right (by decide) (by omega)
  have h2 : 4 ^ 3 = 64 := by decide
  have h3 : b * 4 ^ x ≤ 3 * 64 := Nat.mul_le_mul (by omega) (by omega)
  rw [nI_or (by omega) (by omega)]
  congr 1
  have := or_add (a := a) (b := b) (i := 2 * x) (by rw [pow24]; exact h)
  rw [pow24] at this
  exact this
theorem c4_followParts {M : xMac} (hm : cMc I M) (hwh : mWhole M) {p : Nat} (hp : isPl p) (h27 : 27 ≤ p) {hs : List (List Nat)} (h : pWd I J p hs) (hg : ∀ a ∈ hs, wGood M a) {f : Nat} (hf : pFo I M p hs f) : xCon G M_X4_followParts [.ref (G.1 p), .ref (G.1 21)] I J (xpi fun v I' J' => ((v = 1 ∧ ∃ hs', hExt M hs hs' ∧ pWd I' J' p hs' ∧ (∀ a ∈ hs', wGood M a) ∧ pFo I' M p hs' hs'.length) ∨ (v = 0 ∧ ∃ hs' w, hExt M hs (hs' ++ [w]) ∧ w ∉ hs' ∧ hs'.length = 200 ∧ pWd I' J' p hs')) ∧ cfx [p, p + 1, p + 1 + 1, p + 1 + 2, p + 1 + 3, p + 9, p + 10, p + 14] I J I' J' ∧ (∀ j, j ≠ 8 → j ≠ 9 → I' p j = I p j) ∧ I' p 8 = nI (mK M)) := by
  have hM := hm.1.1
  have hK4 := hM.2.1
  have L : ∀ i, i ≤ 200 → ∀ I1 J1 (hs1 : List (List Nat)) (z3 z4 z5 : Option Value), cfx [p, p + 1, p + 1 + 1, p + 1 + 2, p + 1 + 3, p + 9, p + 10, p + 14] I J I1 J1 → (∀ j, j ≠ 8 → j ≠ 9 → I1 p j = I p j) → I1 p 8 = nI (mK M) → hExt M hs hs1 → pWd I1 J1 p hs1 → (∀ a ∈ hs1, wGood M a) → pFo I1 M p hs1 i → xT G M_X4_followParts (xMQ G (xpi fun v I' J' => ((v = 1 ∧ ∃ hs', hExt M hs hs' ∧ pWd I' J' p hs' ∧ (∀ a ∈ hs', wGood M a) ∧ pFo I' M p hs' hs'.length) ∨ (v = 0 ∧ ∃ hs' w, hExt M hs (hs' ++ [w]) ∧ w ∉ hs' ∧ hs'.length = 200 ∧ pWd I' J' p hs')) ∧ cfx [p, p + 1, p + 1 + 1, p + 1 + 2, p + 1 + 3, p + 9, p + 10, p + 14] I J I' J' ∧ (∀ j, j ≠ 8 → j ≠ 9 → I' p j = I p j) ∧ I' p 8 = nI (mK M))) 13 [some (.ref (G.1 p)), some (.ref (G.1 21)), some (.int (nI i)), z3, z4, z5] [] I1 J1 := by
    refine x_for (fun i hi IH I1 J1 hs1 z3 z4 z5 f1 o1 k1 e1 w1 g1 p1 => ?_)
    have hl1 := w1.len
    have K141 : i = hs1.length → xT G M_X4_followParts (xMQ G (xpi fun v I' J' => ((v = 1 ∧ ∃ hs', hExt M hs hs' ∧ pWd I' J' p hs' ∧ (∀ a ∈ hs', wGood M a) ∧ pFo I' M p hs' hs'.length) ∨ (v = 0 ∧ ∃ hs' w, hExt M hs (hs' ++ [w]) ∧ w ∉ hs' ∧ hs'.length = 200 ∧ pWd I' J' p hs')) ∧ cfx [p, p + 1, p + 1 + 1, p + 1 + 2, p + 1 + 3, p + 9, p + 10, p + 14] I J I' J' ∧ (∀ j, j ≠ 8 → j ≠ 9 → I' p j = I p j) ∧ I' p 8 = nI (mK M))) 141 [some (.ref (G.1 p)), some (.ref (G.1 21)), some (.int (nI i)), z3, z4, z5] [] I1 J1 := by
      intro e
      subst e
      refine xr_ic1 dX4_followParts_141 ?_
      refine xr_zret dX4_followParts_142 rfl rfl (by simp) ⟨Or.inl ⟨rfl, hs1, e1, w1, g1, p1⟩, f1, o1, k1⟩
    refine xr_iload2 dX4_followParts_13 rfl ?_
    refine xr_aload0 dX4_followParts_14 rfl ?_
    refine xr_getR dX4_followParts_15 fk_4_14 hp.1 rfl ?_
    refine xr_getIv dX4_followParts_18 fk_4_93 hp.2.1.1 rfl hl1.2 ?_
    refine xr_icmp_ge 141 dX4_followParts_21 (by decide) (fun hc => ?_) (fun hc => ?_)
    · exact K141 (by have := nle hc; have := p1.2.1; omega)
    have hil := nlt hc
    refine xr_iload2 dX4_followParts_24 rfl ?_
    refine xr_sip si_200 dX4_followParts_25 ?_
    refine xr_icmp_ge 141 dX4_followParts_28 (by decide) (fun hc2 => ?_) (fun hc2 => ?_)
    · have := nle (b := 200) hc2; omega
    have IH := IH (by omega)
    have ha16 := w1.2 _ (List.getElem_mem hil)
    have hag := g1 _ (List.getElem_mem hil)
    generalize haw : hs1[i] = a at ha16 hag
    have hat : hs1[i]? = some a := by rw [List.getElem?_eq_getElem hil, haw]
    have Lx : ∀ x, x ≤ mK M → ∀ I2 J2 (hs2 : List (List Nat)) (z5 : Option Value), cfx [p, p + 1, p + 1 + 1, p + 1 + 2, p + 1 + 3, p + 9, p + 10, p + 14] I J I2 J2 → (∀ j, j ≠ 8 → j ≠ 9 → I2 p j = I p j) → I2 p 8 = nI (mK M) → hExt M hs hs2 → pWd I2 J2 p hs2 → (∀ a ∈ hs2, wGood M a) → pFo I2 M p hs2 i → hs2[i]? = some a → (∀ x', x' < x → ∃ j, I2 (p + 9) (4 * i + x') = nI j ∧ hs2[j]? = some (wpart M a x')) → xT G M_X4_followParts (xMQ G (xpi fun v I' J' => ((v = 1 ∧ ∃ hs', hExt M hs hs' ∧ pWd I' J' p hs' ∧ (∀ a ∈ hs', wGood M a) ∧ pFo I' M p hs' hs'.length) ∨ (v = 0 ∧ ∃ hs' w, hExt M hs (hs' ++ [w]) ∧ w ∉ hs' ∧ hs'.length = 200 ∧ pWd I' J' p hs')) ∧ cfx [p, p + 1, p + 1 + 1, p + 1 + 2, p + 1 + 3, p + 9, p + 10, p + 14] I J I' J' ∧ (∀ j, j ≠ 8 → j ≠ 9 → I' p j = I p j) ∧ I' p 8 = nI (mK M))) 36 [some (.ref (G.1 p)), some (.ref (G.1 21)), some (.int (nI i)), some (.int (nI (wrt M a x))), some (.int (nI x)), z5] [] I2 J2 := by
      refine x_for (fun x hx IHx I2 J2 hs2 z5 f2 o2 k2 e2 w2 g2 p2 a2 q2 => ?_)
      have hl2 := w2.len
      obtain ⟨hi2, hia⟩ := List.getElem?_eq_some_iff.mp a2
      refine xr_iload dX4_followParts_36 rfl ?_
      refine xr_aload0 dX4_followParts_38 rfl ?_
      refine xr_getIv dX4_followParts_39 fk_4_46 hp.1 rfl k2 ?_
      refine xr_icmp_ge 121 dX4_followParts_42 (by decide) (fun hc => ?_) (fun hc => ?_)
      · have : x = mK M := by have := nle hc; omega
        subst this
        refine xr_aload0 dX4_followParts_121 rfl ?_
        refine xr_getR dX4_followParts_122 fk_4_27 hp.1 rfl ?_
        refine xr_iload2 dX4_followParts_125 rfl ?_
        refine xr_iload3 dX4_followParts_126 rfl ?_
        refine xr_iast i dX4_followParts_127 hp.2.2.2.2.1 rfl (by omega) (by first | decide | omega) ?_
        generalize hI3 : va_up I2 (p + 10) (upd (I2 (p + 10)) i (nI (wrt M a (mK M)))) = I3
        refine xr_aload0 dX4_followParts_128 rfl ?_
        refine xr_iload2 dX4_followParts_129 rfl ?_
        refine xr_ic1 dX4_followParts_130 ?_
        refine xr_iadd dX4_followParts_131 ?_
        rw [k_1, nI_add]
        refine xr_putI dX4_followParts_132 fp_4_50 hp.1 rfl ?_
        generalize hI4 : va_up I3 p (upd (I3 p) 9 (nI (i + 1))) = I4
        refine xr_iinc dX4_followParts_135 rfl ii_1 (Nat.le_of_ble_eq_true rfl) ?_
        show xT _ _ _ 138 [_, _, _, _, _, _] _ _ _
        refine xr_goto 13 dX4_followParts_138 (by decide) ?_
        rw [k_1, nI_add]
        have f4 : cfx [p, p + 1, p + 1 + 1, p + 1 + 2, p + 1 + 3, p + 9, p + 10, p + 14] I J I4 J2 := by rw [← hI4, ← hI3]; exact (f2.up _ (by simp)).up _ (by simp)
        have e9 : I4 (p + 9) = I2 (p + 9) := by rw [← hI4, va_up_ne _ _ (by omega), ← hI3, va_up_ne _ _ (by omega)]
        have e10 : I4 (p + 10) = upd (I2 (p + 10)) i (nI (wrt M a (mK M))) := by rw [← hI4, va_up_ne _ _ (by omega), ← hI3, up_same]
        have ep : ∀ j, j ≠ 9 → I4 p j = I2 p j := fun j hj => by rw [← hI4, up_same, upd_ne _ _ hj, ← hI3, va_up_ne _ _ (by omega)]
        refine IH I4 J2 hs2 _ _ _ f4 (fun j h8 h9 => by rw [ep j h9]; exact o2 j h8 h9) (by rw [ep 8 (by decide)]; exact k2) e2 (w2.cg (fun a h1 h2 => ⟨by rw [← hI4, va_up_ne _ _ (by omega), ← hI3, va_up_ne _ _ (by omega)], rfl⟩)) g2 ⟨by rw [← hI4, up_same, upd_same], by omega, fun k hk hki => ?_⟩
        rw [e9, e10]
        rcases Nat.lt_or_ge k i with q | q
        · rw [upd_ne _ _ (by omega)]; exact p2.2.2 k hk q
        · have : k = i := by omega
          subst this
          rw [upd_same, hia]
          exact ⟨rfl, q2⟩
      have hxl := nlt hc
      have IHx := IHx hxl
      have hW := hp.2.2.2.2.2.2.2.2
      have hag2 : wGood M hs2[i] := by rw [hia]; exact hag
      refine xr_aload0 dX4_followParts_45 rfl ?_
      refine xr_iload2 dX4_followParts_46 rfl ?_
      refine xr_aload0 dX4_followParts_47 rfl ?_
      refine xr_getR dX4_followParts_48 fk_4_42 hp.1 rfl ?_
      refine xr_cVv [_, _] dX4_followParts_51 (xcv_of cf_X4_load ml_4_96 (by decide)) rfl hp.1 rfl rfl rfl (Nat.le_of_ble_eq_true rfl) (c4_load hp w2 hi2 hW) (fun I3 J3 hc3 => ?_)
      obtain ⟨d3, f3⟩ := hc3
      have m2 : cMc I2 M := f2.mc hm (fun a ha => by simp at ha; omega)
      have m3 : cMc I3 M := f3.mcw hW m2
      refine xr_iload3 dX4_followParts_54 rfl ?_
      refine xr_aload0 dX4_followParts_55 rfl ?_
      refine xr_getR dX4_followParts_56 fk_4_42 hp.1 rfl ?_
      refine xr_aload1 dX4_followParts_59 rfl ?_
      refine xr_iload dX4_followParts_60 rfl ?_
      refine xr_cVi [_, _] dX4_followParts_62 (xcv_of cf_X7_descend ml_4_100 (by decide)) rfl hp.2.2.2.2.2.2.2.2 rfl rfl rfl (Nat.le_of_ble_eq_true rfl) (c7_descend m3 hwh hW d3 hag2.1 hag2.2.2 hxl) (fun v I4 J4 hc4 => ?_)
      obtain ⟨rfl, d4, f4⟩ := hc4
      rw [hia] at d4 ⊢
      have hol := wout_lt hM hwh hag.2.2 hxl
      have hpg := wpart_good hM hwh hag.2.2 hxl
      have hwr := wrt_lt hM hwh hag.2.2 x (by omega)
      have f34 : cfx [p + 14] I2 J2 I4 J4 := f3.tr f4
      refine xr_ic2 dX4_followParts_65 ?_
      refine xr_iload dX4_followParts_66 rfl ?_
      refine xr_imul dX4_followParts_68 ?_
      refine xr_ishl dX4_followParts_69 ?_
      refine xr_ior dX4_followParts_70 ?_
      have hsh : nI (wout M a x) <<< (nI 2 * nI x &&& 31) = nI (wout M a x * 4 ^ x) := by rw [pk_mul]; exact shl_w ⟨x, by omega⟩ ⟨wout M a x, by omega⟩
      rw [k_2, hsh, or_w hwr (by omega) (by omega)]
      refine xr_istore3 dX4_followParts_71 (Nat.le_of_ble_eq_true rfl) ?_
      show xT _ _ _ 72 [_, _, _, _, _, _] _ _ _
      refine xr_aload0 dX4_followParts_72 rfl ?_
      refine xr_getR dX4_followParts_73 fk_4_14 hp.1 rfl ?_
      refine xr_aload0 dX4_followParts_76 rfl ?_
      refine xr_getR dX4_followParts_77 fk_4_42 hp.1 rfl ?_
      refine xr_getJv dX4_followParts_80 fk_4_65 hp.2.2.2.2.2.2.2.2 rfl d4.1 ?_
      refine xr_aload0 dX4_followParts_83 rfl ?_
      refine xr_getR dX4_followParts_84 fk_4_42 hp.1 rfl ?_
      show xT _ _ _ 87 _ _ _ _
      refine xr_getIv dX4_followParts_87 fk_4_69 hp.2.2.2.2.2.2.2.2 rfl d4.2 ?_
      have w4 : pWd I4 J4 p hs2 := w2.cg (fun a h1 h2 => f34 a (by simp only [List.mem_cons, List.not_mem_nil, or_false]; omega))
      have f04 : cfx [p, p + 1, p + 1 + 1, p + 1 + 2, p + 1 + 3, p + 9, p + 10, p + 14] I J I4 J4 := f2.tr (f34.mono (by simp))
      have o4 : ∀ j, I4 p j = I2 p j := fun j => by rw [(f34 p (by simp only [List.mem_cons, List.not_mem_nil, or_false]; omega)).1]
      have hp16 : w16 (wpart M a x) := ⟨by have := hag.1; omega, wOk16 hM hpg.1⟩
      have hpgood : wGood M (wpart M a x) := ⟨hp16.1, hpg.2.1, hpg.1⟩
      have hge : ∀ P : List Nat → Prop, (∀ a ∈ hs, P a) → (∀ a x, P a → x < mK M → P (wpart M a x)) → P (wpart M a x) := fun P h1 h2 => h2 a x (e2.2 P h1 h2 a (List.mem_of_getElem? a2)) hxl
      refine xr_cVi [_, _] dX4_followParts_90 (xcv_of cf_X0_add ml_4_83 (by decide)) rfl hp.2.1.1 rfl rfl rfl (Nat.le_of_ble_eq_true rfl) (pl_add hp w4 hp16) (fun v I5 J5 hc5 => ?_)
      have fin : ∀ I5 J5 (hs3 : List (List Nat)) (j : Nat), cfx [p, p + 1, p + 1 + 1, p + 1 + 2, p + 1 + 3, p + 9, p + 10, p + 14] I J I5 J5 → (∀ j, j ≠ 8 → j ≠ 9 → I5 p j = I p j) → I5 p 8 = nI (mK M) → hExt M hs hs3 → pWd I5 J5 p hs3 → (∀ a ∈ hs3, wGood M a) → pFo I5 M p hs3 i → hs3[i]? = some a → (∀ x', x' < x → ∃ j, I5 (p + 9) (4 * i + x') = nI j ∧ hs3[j]? = some (wpart M a x')) → hs3[j]? = some (wpart M a x) → xT G M_X4_followParts (xMQ G (xpi fun v I' J' => ((v = 1 ∧ ∃ hs', hExt M hs hs' ∧ pWd I' J' p hs' ∧ (∀ a ∈ hs', wGood M a) ∧ pFo I' M p hs' hs'.length) ∨ (v = 0 ∧ ∃ hs' w, hExt M hs (hs' ++ [w]) ∧ w ∉ hs' ∧ hs'.length = 200 ∧ pWd I' J' p hs')) ∧ cfx [p, p + 1, p + 1 + 1, p + 1 + 2, p + 1 + 3, p + 9, p + 10, p + 14] I J I' J' ∧ (∀ j, j ≠ 8 → j ≠ 9 → I' p j = I p j) ∧ I' p 8 = nI (mK M))) 93 [some (.ref (G.1 p)), some (.ref (G.1 21)), some (.int (nI i)), some (.int (nI (wrt M a x + wout M a x * 4 ^ x))), some (.int (nI x)), z5] [.int (nI j)] I5 J5 := by
        intro I5 J5 hs3 j f5 o5 k5 e5 w5 g5 p5 a5 q5 hj5
        have hjl := (List.getElem?_eq_some_iff.mp hj5).1
        have hl5 := w5.len.1
        refine xr_istore dX4_followParts_93 (Nat.le_of_ble_eq_true rfl) ?_
        show xT _ _ _ 95 [_, _, _, _, _, _] _ _ _
        refine xr_iload dX4_followParts_95 rfl ?_
        refine xr_if_ge 102 dX4_followParts_97 (by decide) (fun hz => ?_) (fun hz => ?_)
        rotate_left
        · exact absurd (nI_pos' (by omega)) hz
        refine xr_aload0 dX4_followParts_102 rfl ?_
        refine xr_getR dX4_followParts_103 fk_4_23 hp.1 rfl ?_
        refine xr_iload2 dX4_followParts_106 rfl ?_
        refine xr_ic4 dX4_followParts_107 ?_
        refine xr_imul dX4_followParts_108 ?_
        refine xr_iload dX4_followParts_109 rfl ?_
        refine xr_iadd dX4_followParts_111 ?_
        refine xr_iload dX4_followParts_112 rfl ?_
        show xT _ _ _ 114 _ _ _ _
        refine xr_iast (4 * i + x) dX4_followParts_114 hp.2.2.2.1 (by rw [k_4, pk_mul, nI_add, Nat.mul_comm]) (by omega) (by first | decide | omega) ?_
        generalize hI6 : va_up I5 (p + 9) (upd (I5 (p + 9)) (4 * i + x) (nI j)) = I6
        refine xr_iinc dX4_followParts_115 rfl ii_1 (Nat.le_of_ble_eq_true rfl) ?_
        show xT _ _ _ 118 [_, _, _, _, _, _] _ _ _
        refine xr_goto 36 dX4_followParts_118 (by decide) ?_
        rw [k_1, nI_add]
        have e9 : I6 (p + 9) = upd (I5 (p + 9)) (4 * i + x) (nI j) := by rw [← hI6, up_same]
        have eo : ∀ a, a ≠ p + 9 → I6 a = I5 a := fun a ha => by rw [← hI6, va_up_ne _ _ ha]
        refine IHx I6 J5 hs3 _ (by rw [← hI6]; exact f5.up _ (by simp)) (fun j h8 h9 => by rw [eo p (by omega)]; exact o5 j h8 h9) (by rw [eo p (by omega)]; exact k5) e5 (w5.cg (fun a h1 h2 => ⟨eo a (by omega), rfl⟩)) g5 ⟨by rw [eo p (by omega)]; exact p5.1, p5.2.1, fun k hk hki => ?_⟩ a5 (fun x' hx' => ?_)
        · obtain ⟨u1, u2⟩ := p5.2.2 k hk hki
          refine ⟨by rw [eo _ (by omega)]; exact u1, fun y hy => ?_⟩
          rw [e9, upd_ne _ _ (by omega)]
          exact u2 y hy
        · rw [e9]
          by_cases q : x' = x
          · subst q; rw [upd_same]; exact ⟨j, rfl, hj5⟩
          · rw [upd_ne _ _ (by omega)]; exact q5 x' (by omega)
      have p4 : pFo I4 M p hs2 i := ⟨by rw [o4]; exact p2.1, p2.2.1, fun k hk hki => by rw [(f34 (p + 10) (by simp only [List.mem_cons, List.not_mem_nil, or_false]; omega)).1, (f34 (p + 9) (by simp only [List.mem_cons, List.not_mem_nil, or_false]; omega)).1]; exact p2.2.2 k hk hki⟩
      have q4 : ∀ x', x' < x → ∃ j, I4 (p + 9) (4 * i + x') = nI j ∧ hs2[j]? = some (wpart M a x') := fun x' hx' => by rw [(f34 (p + 9) (by simp only [List.mem_cons, List.not_mem_nil, or_false]; omega)).1]; exact q2 x' hx'
      rcases hc5 with ⟨j, hj, rfl, rfl, rfl⟩ | ⟨hn, hl, rfl, rfl, rfl⟩ | ⟨hn, hl, rfl, w5, f5⟩
      · exact fin I4 J4 hs2 j f04 (fun j h8 h9 => by rw [o4]; exact o2 j h8 h9) (by rw [o4]; exact k2) e2 w4 g2 p4 a2 q4 hj
      · skip
        refine xr_istore dX4_followParts_93 (Nat.le_of_ble_eq_true rfl) ?_
        show xT _ _ _ 95 [_, _, _, _, _, _] _ _ _
        refine xr_iload dX4_followParts_95 rfl ?_
        refine xr_if_ge 102 dX4_followParts_97 (by decide) (fun hz => ?_) (fun hz => ?_)
        · exact absurd hz (by decide)
        refine xr_ic0 dX4_followParts_100 ?_
        refine xr_zret dX4_followParts_101 rfl rfl (by simp) ⟨Or.inr ⟨rfl, hs2, wpart M a x, e2.tr ⟨⟨[wpart M a x], rfl⟩, fun P h1 h2 b hb => ?_⟩, hn, hl, w4⟩, f04, fun j h8 h9 => by rw [o4]; exact o2 j h8 h9, by rw [o4]; exact k2⟩
        rcases List.mem_append.mp hb with q | q
        · exact h1 b q
        · rw [List.mem_singleton.mp q]; exact h2 a x (h1 a (List.mem_of_getElem? a2)) hxl
      · have e5 : hExt M hs2 (hs2 ++ [wpart M a x]) := ⟨⟨[wpart M a x], rfl⟩, fun P h1 h2 b hb => by
          rcases List.mem_append.mp hb with q | q
          · exact h1 b q
          · rw [List.mem_singleton.mp q]; exact h2 a x (h1 a (List.mem_of_getElem? a2)) hxl⟩
        have f45 : cfx [p + 1, p + 1 + 1, p + 1 + 2, p + 1 + 3] I4 J4 I5 J5 := f5
        refine fin I5 J5 _ hs2.length (f04.tr (f5.mono (by simp))) (fun j h8 h9 => by rw [(f45 p (by simp only [List.mem_cons, List.not_mem_nil, or_false]; omega)).1, o4]; exact o2 j h8 h9) (by rw [(f45 p (by simp only [List.mem_cons, List.not_mem_nil, or_false]; omega)).1, o4]; exact k2) (e2.tr e5) w5 (fun b hb => ?_) ⟨by rw [(f45 p (by simp only [List.mem_cons, List.not_mem_nil, or_false]; omega)).1]; exact p4.1, by simp; omega, fun k hk hki => ?_⟩ (e5.at a2) (fun x' hx' => ?_) (by simp)
        · rcases List.mem_append.mp hb with q | q
          · exact g2 b q
          · rw [List.mem_singleton.mp q]; exact hpgood
        · rw [(f45 (p + 10) (by simp only [List.mem_cons, List.not_mem_nil, or_false]; omega)).1, (f45 (p + 9) (by simp only [List.mem_cons, List.not_mem_nil, or_false]; omega)).1, List.getElem_append_left (show k < hs2.length by omega)]
          obtain ⟨u1, u2⟩ := p4.2.2 k (by omega) hki
          refine ⟨u1, fun y hy => ?_⟩
          obtain ⟨j, h1, h2⟩ := u2 y hy
          exact ⟨j, h1, e5.at h2⟩
        · rw [(f45 (p + 9) (by simp only [List.mem_cons, List.not_mem_nil, or_false]; omega)).1]
          obtain ⟨j, h1, h2⟩ := q4 x' hx'
          exact ⟨j, h1, e5.at h2⟩
    refine xr_ic0 dX4_followParts_31 ?_
    refine xr_istore3 dX4_followParts_32 (Nat.le_of_ble_eq_true rfl) ?_
    show xT _ _ _ 33 [_, _, _, _, _, _] _ _ _
    refine xr_ic0 dX4_followParts_33 ?_
    refine xr_istore dX4_followParts_34 (Nat.le_of_ble_eq_true rfl) ?_
    show xT _ _ _ 36 [_, _, _, _, _, _] _ _ _
    exact Lx 0 (Nat.zero_le _) I1 J1 hs1 _ f1 o1 k1 e1 w1 g1 p1 hat (fun x' hx' => absurd hx' (Nat.not_lt_zero _))
  have hlen := h.len.1
  have hfl := hf.2.1
  refine x_ent (by decide) (Nat.le_of_ble_eq_true rfl) rfl ?_
  show xT _ _ _ 0 [_, _, _, _, _, _] _ _ _
  refine xr_aload0 dX4_followParts_0 rfl ?_
  refine xr_aload1 dX4_followParts_1 rfl ?_
  refine xr_getIv dX4_followParts_2 fk_4_90 lay_21 rfl hm.1.2.1 ?_
  refine xr_putI dX4_followParts_5 fp_4_46 hp.1 rfl ?_
  generalize hI1 : va_up I p (upd (I p) 8 (nI (mK M))) = I1
  have e1 : ∀ j, j ≠ 8 → I1 p j = I p j := fun j hj => by rw [← hI1, up_same, upd_ne _ _ hj]
  have eo : ∀ a, a ≠ p → I1 a = I a := fun a ha => by rw [← hI1, va_up_ne _ _ ha]
  have h9 : I1 p 9 = nI f := by rw [e1 9 (by decide)]; exact hf.1
  refine xr_aload0 dX4_followParts_8 rfl ?_
  refine xr_getIv dX4_followParts_9 fk_4_50 hp.1 rfl h9 ?_
  refine xr_istore2 dX4_followParts_12 (Nat.le_of_ble_eq_true rfl) ?_
  show xT _ _ _ 13 [_, _, _, _, _, _] _ _ _
  exact L f (by omega) I1 J hs _ _ _ (by rw [← hI1]; exact cfx.rf.up _ (by simp)) (fun j h8 _ => e1 j h8) (by rw [← hI1, up_same, upd_same]) hExt.rf (h.cg (fun a h1 h2 => ⟨eo a (by omega), rfl⟩)) hg ⟨h9, hfl, fun k hk hkf => by rw [eo (p + 10) (by omega), eo (p + 9) (by omega)]; exact hf.2.2 k hk hkf⟩
end C16
