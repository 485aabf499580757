section C27
variable {G : xG} {I : xI} {J : xJ}
theorem c2_commonDivisor {a b : Nat} (ha : 0 < a) (hal : a < 2 ^ 62) (hb : b < 512) : xCon G M_X2_commonDivisor [.long (lN a), .long (lN b)] I J (xpl fun r I' J' => r = lN (Nat.gcd a b) ∧ I = I' ∧ J = J') := by
  have K44 : ∀ (s : Int32) (z9 : Option Value) (hi lo : Nat), hi = Nat.gcd a b → xT G M_X2_commonDivisor (xMQ G (xpl fun r I' J' => r = lN (Nat.gcd a b) ∧ I = I' ∧ J = J')) 44 [some (.long (lN a)), none, some (.long (lN b)), none, some (.long (lN hi)), none, some (.long (lN lo)), none, some (.int s), z9, none] [] I J := by
    intro s z9 hi lo he
    have hp : 0 < Nat.gcd a b := Nat.gcd_pos_of_pos_left _ ha
    have hle : Nat.gcd a b ≤ a := Nat.le_of_dvd ha (Nat.gcd_dvd_left _ _)
    refine xr_lload dX2_commonDivisor_44 rfl ?_
    refine xr_lc1 dX2_commonDivisor_46 ?_
    refine xr_maxl dX2_commonDivisor_47 ml_2_100l (by decide) (by decide) ?_
    have e : (if (1 : Int64) < lN hi then lN hi else 1) = lN hi := by
      split
      · rfl
      · rename_i hn
        have : ¬ 1 < hi := fun q => hn ((pk_lLT (a := 1) (by decide) (by omega)).mpr q)
        rw [show hi = 1 by omega]
        rfl
    rw [e]
    refine xr_lret dX2_commonDivisor_50 rfl rfl ⟨by rw [he], rfl, rfl⟩
  have K9 : ∀ (s hi lo : Nat) (z9 : Option Value), s < 100 → hi < 2 ^ 62 → lo < 2 ^ 62 → Nat.gcd hi lo = Nat.gcd a b → (∀ z9 : Option Value, 0 < lo → xT G M_X2_commonDivisor (xMQ G (xpl fun r I' J' => r = lN (Nat.gcd a b) ∧ I = I' ∧ J = J')) 9 [some (.long (lN a)), none, some (.long (lN b)), none, some (.long (lN lo)), none, some (.long (lN (hi % lo))), none, some (.int (nI (s + 1))), z9, none] [] I J) → xT G M_X2_commonDivisor (xMQ G (xpl fun r I' J' => r = lN (Nat.gcd a b) ∧ I = I' ∧ J = J')) 9 [some (.long (lN a)), none, some (.long (lN b)), none, some (.long (lN hi)), none, some (.long (lN lo)), none, some (.int (nI s)), z9, none] [] I J := by
    intro s hi lo z9 hs hhi hlo hg kk
    refine xr_iload dX2_commonDivisor_9 rfl ?_
    refine xr_bip bi_100 dX2_commonDivisor_11 ?_
    refine xr_icmp_ge 44 dX2_commonDivisor_13 (by decide) (fun hc => ?_) (fun hc => ?_)
    · have := nle (b := 100) hc; omega
    refine xr_lload dX2_commonDivisor_16 rfl ?_
    refine xr_lc0 dX2_commonDivisor_18 ?_
    refine xr_lcmp dX2_commonDivisor_19 ?_
    refine xr_if_le 44 dX2_commonDivisor_20 (by decide) (fun hle => ?_) (fun hle => ?_)
    · have hl0 : lo ≤ 0 := (pk_lLE (b := 0) (by omega) (by decide)).mp ((lg_cmp_le _ _).mp hle)
      have : lo = 0 := by omega
      subst this
      rw [Nat.gcd_zero_right] at hg
      exact K44 _ _ _ _ hg
    have hl0 : 0 < lo := by
      rcases Nat.eq_zero_or_pos lo with q | q
      · exact absurd (by rw [q]; decide) hle
      · exact q
    have hne : ¬ lN lo = 0 := fun q => by
      have : lo = 0 := (pk_lEQ (b := 0) (by omega) (by decide)).mp q
      omega
    refine xr_lload dX2_commonDivisor_23 rfl ?_
    refine xr_lload dX2_commonDivisor_25 rfl ?_
    refine xr_lrem dX2_commonDivisor_27 hne ?_
    rw [pk_lRem (by omega) hl0 (by omega)]
    refine xr_lstore dX2_commonDivisor_28 (Nat.le_of_ble_eq_true rfl) ?_
    show xT _ _ _ 30 [_, _, _, _, _, _, _, _, _, _, _] _ _ _
    refine xr_lload dX2_commonDivisor_30 rfl ?_
    refine xr_lstore dX2_commonDivisor_32 (Nat.le_of_ble_eq_true rfl) ?_
    show xT _ _ _ 34 [_, _, _, _, _, _, _, _, _, _, _] _ _ _
    refine xr_lload dX2_commonDivisor_34 rfl ?_
    refine xr_lstore dX2_commonDivisor_36 (Nat.le_of_ble_eq_true rfl) ?_
    show xT _ _ _ 38 [_, _, _, _, _, _, _, _, _, _, _] _ _ _
    refine xr_iinc dX2_commonDivisor_38 rfl ii_1 (Nat.le_of_ble_eq_true rfl) ?_
    show xT _ _ _ 41 [_, _, _, _, _, _, _, _, _, _, _] _ _ _
    refine xr_goto 9 dX2_commonDivisor_41 (by decide) ?_
    rw [k_1, nI_add]
    exact kk _ hl0
  have gmod : ∀ hi lo : Nat, Nat.gcd lo (hi % lo) = Nat.gcd hi lo := fun hi lo => by rw [Nat.gcd_comm lo, ← Nat.gcd_rec, Nat.gcd_comm]
  have L : ∀ k s hi lo (z9 : Option Value), lo < 2 ^ k → k ≤ 40 → s + 2 * k < 100 → hi < 2 ^ 62 → Nat.gcd hi lo = Nat.gcd a b → xT G M_X2_commonDivisor (xMQ G (xpl fun r I' J' => r = lN (Nat.gcd a b) ∧ I = I' ∧ J = J')) 9 [some (.long (lN a)), none, some (.long (lN b)), none, some (.long (lN hi)), none, some (.long (lN lo)), none, some (.int (nI s)), z9, none] [] I J := by
    intro k
    induction k with
    | zero =>
      intro s hi lo z9 hlo hk hs hhi hg
      refine K9 s hi lo z9 (by omega) hhi (by omega) hg (fun z9 q => by omega)
    | succ k IH =>
      intro s hi lo z9 hlo hk hs hhi hg
      have hp : 2 ^ (k + 1) ≤ 2 ^ 41 := Nat.pow_le_pow_right (by decide) (by omega)
      have h41 : 2 ^ 41 < 2 ^ 62 := by decide
      have hp2 : 2 ^ (k + 1) = 2 ^ k * 2 := Nat.pow_succ _ _
      refine K9 s hi lo z9 (by omega) hhi (by omega) hg (fun z9 hl0 => ?_)
      have hm := Nat.mod_lt hi hl0
      refine K9 (s + 1) lo (hi % lo) z9 (by omega) (by omega) (by omega) (by rw [gmod]; exact hg) (fun z9 hr0 => ?_)
      have hm2 : lo % (hi % lo) < 2 ^ k := by
        have h1 := Nat.mod_lt lo hr0
        generalize hi % lo = r at *
        rcases Nat.lt_or_ge (2 * r) lo with q | q
        · omega
        · rcases Nat.lt_or_ge r lo with q2 | q2
          · have e : lo % r = (lo - r) % r := Nat.mod_eq_sub_mod (Nat.le_of_lt q2)
            rw [e]
            have := Nat.mod_le (lo - r) r
            omega
          · omega
      exact IH (s + 1 + 1) (hi % lo) (lo % (hi % lo)) z9 hm2 (by omega) (by omega) (by omega) (by rw [gmod, gmod]; exact hg)
  refine x_ent (by decide) (Nat.le_of_ble_eq_true rfl) rfl ?_
  show xT _ _ _ 0 [_, _, _, _, _, _, _, _, _, _, _] _ _ _
  refine xr_lload0 dX2_commonDivisor_0 rfl ?_
  refine xr_lstore dX2_commonDivisor_1 (Nat.le_of_ble_eq_true rfl) ?_
  show xT _ _ _ 3 [_, _, _, _, _, _, _, _, _, _, _] _ _ _
  refine xr_lload2 dX2_commonDivisor_3 rfl ?_
  refine xr_lstore dX2_commonDivisor_4 (Nat.le_of_ble_eq_true rfl) ?_
  show xT _ _ _ 6 [_, _, _, _, _, _, _, _, _, _, _] _ _ _
  refine xr_ic0 dX2_commonDivisor_6 ?_
  refine xr_istore dX2_commonDivisor_7 (Nat.le_of_ble_eq_true rfl) ?_
  show xT _ _ _ 9 [_, _, _, _, _, _, _, _, _, _, _] _ _ _
  exact L 9 0 a b _ (by omega) (by decide) (by decide) hal rfl
-- rounds of a permutation
theorem itr_comm (f : Nat → Nat) (a b p : Nat) : itr f a (itr f b p) = itr f b (itr f a p) := by rw [← itr_add, ← itr_add, Nat.add_comm]
theorem itr_mul {f : Nat → Nat} {c p : Nat} (h : itr f c p = p) : ∀ m, itr f (c * m) p = p
  | 0 => rfl
  | m + 1 => by rw [Nat.mul_succ, itr_add, h, itr_mul h m]
def orbV (f : Nat → Nat) (n q : Nat) : Prop := ∃ p k, p < n ∧ itr f k p = q
theorem orbV.step {f : Nat → Nat} {n q : Nat} (h : orbV f n q) : orbV f n (f q) := by
  obtain ⟨p, k, hp, rfl⟩ := h
  exact ⟨p, k + 1, hp, itr_succ f k p⟩
theorem orbV.back {f : Nat → Nat} {N n q : Nat} (pm : isPm f N) (hq : q < N) (h : orbV f n (f q)) : orbV f n q := by
  obtain ⟨c1, -, c3, -⟩ := cyc_spec pm hq
  obtain ⟨p, k, hp, e⟩ := h
  refine ⟨p, k + (cyc f N q - 1), hp, ?_⟩
  rw [Nat.add_comm, itr_add, e]
  have : itr f (cyc f N q - 1) (f q) = itr f (cyc f N q - 1 + 1) q := rfl
  rw [this, show cyc f N q - 1 + 1 = cyc f N q by omega]
  exact c3
theorem orbV.cyc {f : Nat → Nat} {N n q : Nat} (pm : isPm f N) (hn : n ≤ N) (h : orbV f n q) : ∃ p, p < n ∧ cyc f N q = cyc f N p := by
  obtain ⟨p, k, hp, rfl⟩ := h
  obtain ⟨c1, c2, c3, c4⟩ := cyc_spec pm (show p < N by omega)
  refine ⟨p, hp, cyc_eq pm (pm.lt (by omega) k) c1 ?_ (fun j hj hjc e => ?_)⟩
  · rw [itr_comm, c3]
  · rw [itr_comm] at e
    exact c4 j hj hjc (pm.inj (pm.lt (by omega) j) (by omega) k e)
theorem ordL_old {f : Nat → Nat} {N n : Nat} (pm : isPm f N) (hn : n ≤ N) (h : orbV f n n) : ordL f N (n + 1) = ordL f N n := by
  obtain ⟨p, hp, e⟩ := h.cyc pm hn
  show Nat.lcm (ordL f N n) (cyc f N n) = ordL f N n
  rw [e]
  have h1 : cyc f N p ∣ ordL f N n := Nat.dvd_trans (Nat.dvd_lcm_right (ordL f N p) (cyc f N p)) (ordL_dvd f N (show p + 1 ≤ n by omega))
  exact Nat.dvd_antisymm (Nat.lcm_dvd (Nat.dvd_refl _) h1) (Nat.dvd_lcm_left _ _)
noncomputable def vis (V : Nat → Prop) (p : Nat) : Int32 := @ite _ (V p) (Classical.propDecidable _) 0 (-1)
theorem vis_t {V : Nat → Prop} {p : Nat} (h : V p) : vis V p = 0 := by unfold vis; rw [if_pos h]
theorem vis_f {V : Nat → Prop} {p : Nat} (h : ¬ V p) : vis V p = -1 := by unfold vis; rw [if_neg h]
theorem vis_eq {V W : Nat → Prop} {p : Nat} (h : V p ↔ W p) : vis V p = vis W p := by
  by_cases q : V p
  · rw [vis_t q, vis_t (h.mp q)]
  · rw [vis_f q, vis_f (fun q2 => q (h.mpr q2))]
theorem wkp_mkp {M : xMac} (hM : mOk M) (hwh : mWhole M) {n : Nat} {ws : List Nat} (hw : wOk M ws) {i : Nat} (hi : i < ws.length) (p : Nat) : wkp M n (ws.take (i + 1)) p = mkp M n ws[i] (wkp M n (ws.take i) p) := by
  rw [List.take_succ_eq_append_getElem hi, wkp_snoc hM hwh (fun m hm => hw m (List.mem_of_mem_take hm))]
theorem c2_ringLength {M : xMac} (hM : mOk M) (hwh : mWhole M) {n bt : Nat} (hn : mK M ^ n ≤ 256) (htb : cTb I M bt) (hbt : n < bt) {w : Nat} (hw : isW w) (hwl : w < 27) {ws : List Nat} (hs : cWd I J w ws) (h16 : w16 ws) (hB : wAllB M ws) {V : Nat → Prop} (hV : ∀ q, q < mK M ^ n → (V (wkp M n ws q) ↔ V q)) (hd : ∀ p, p < mK M ^ n → I 31 p = vis V p) {p : Nat} (hp : p < mK M ^ n) (hpV : ¬ V p) : xCon G M_X2_ringLength [.ref (G.1 27), .ref (G.1 w), .int (nI n), .int (nI p)] I J (xpi fun v I' J' => v = nI (cyc (wkp M n ws) (mK M ^ n) p) ∧ (∀ q, q < mK M ^ n → I' 31 q = vis (fun q => V q ∨ ∃ k, itr (wkp M n ws) k p = q) q) ∧ (∀ a, a ≠ 31 → I' a = I a) ∧ J = J') := by
  have hK2 := hM.1
  have hn8 := lvl_8 hK2 hn
  have pm := wkp_pm (n := n) hM hwh hB
  have hstep : ∀ i (hi : i < ws.length) q, wkp M n (ws.take (i + 1)) q = mkp M n ws[i] (wkp M n (ws.take i) q) := fun i hi q => wkp_mkp hM hwh hB.ok hi q
  have hok : ∀ i q, wkp M n (ws.take i) q < mK M ^ n := fun i q => wkp_lt hM hwh (fun m hm => hB.ok m (List.mem_of_mem_take hm)) q
  have h0 : ∀ q, q < mK M ^ n → wkp M n (ws.take 0) q = q := fun q hq => wkp_nil hM hq
  have hs1 := sK_lt hK2 n
  obtain ⟨t1, t2, t3⟩ := htb n hbt
  generalize hf : wkp M n ws = f at *
  generalize hN : mK M ^ n = N at *
  obtain ⟨c1, c2, c3, c4⟩ := cyc_spec pm hp
  have hl16 := h16.1
  have hVit : ∀ k, ¬ V (itr f k p) := fun k => by
    induction k with
    | zero => exact hpV
    | succ k IH => rw [itr_succ]; exact fun q => IH ((hV _ (pm.lt hp k)).mp q)
  have hnew : ∀ r k, r < cyc f N p → k < r → itr f r p ≠ itr f k p := fun r k hr hk e => by
    have e2 : itr f (k + (r - k)) p = itr f k p := by rw [show k + (r - k) = r by omega]; exact e
    rw [itr_add] at e2
    exact c4 (r - k) (by omega) (by omega) (pm.inj (pm.lt hp _) hp k e2)
  have L : ∀ r, r ≤ cyc f N p → ∀ I1 (z6 : Option Value), (∀ q, q < N → I1 31 q = vis (fun q => V q ∨ ∃ k, k < r ∧ itr f k p = q) q) → (∀ a, a ≠ 31 → I1 a = I a) → xT G M_X2_ringLength (xMQ G (xpi fun v I' J' => v = nI (cyc f N p) ∧ (∀ q, q < N → I' 31 q = vis (fun q => V q ∨ ∃ k, itr f k p = q) q) ∧ (∀ a, a ≠ 31 → I' a = I a) ∧ J = J')) 6 [some (.ref (G.1 27)), some (.ref (G.1 w)), some (.int (nI n)), some (.int (nI p)), some (.int (nI r)), some (.int (nI (itr f r p))), z6] [] I1 J := by
    refine x_for (fun r hr IH I1 z6 d1 e1 => ?_)
    have hat := pm.lt hp r
    have v29 : I1 29 n = nI N := by rw [e1 29 (by decide)]; exact t1
    have K86 : r = cyc f N p → xT G M_X2_ringLength (xMQ G (xpi fun v I' J' => v = nI (cyc f N p) ∧ (∀ q, q < N → I' 31 q = vis (fun q => V q ∨ ∃ k, itr f k p = q) q) ∧ (∀ a, a ≠ 31 → I' a = I a) ∧ J = J')) 86 [some (.ref (G.1 27)), some (.ref (G.1 w)), some (.int (nI n)), some (.int (nI p)), some (.int (nI r)), some (.int (nI (itr f r p))), z6] [] I1 J := by
      intro e
      subst e
      refine xr_iload dX2_ringLength_86 rfl ?_
      refine xr_ic1 dX2_ringLength_88 ?_
      refine xr_max dX2_ringLength_89 ml_2_94 (by decide) (Nat.le_of_ble_eq_true rfl) ?_
      have ev : (if nI (cyc f N p) < 1 then (1 : Int32) else nI (cyc f N p)) = nI (cyc f N p) := by
        rw [if_neg]
        intro q
        have := nltl (b := 1) q
        omega
      rw [ev]
      refine xr_iret dX2_ringLength_92 rfl rfl ⟨rfl, fun q hq => ?_, e1, rfl⟩
      rw [d1 q hq]
      refine vis_eq ⟨fun h => ?_, fun h => ?_⟩
      · rcases h with h | ⟨k, -, h⟩
        · exact Or.inl h
        · exact Or.inr ⟨k, h⟩
      · rcases h with h | ⟨k, h⟩
        · exact Or.inl h
        · refine Or.inr ⟨k % cyc f N p, Nat.mod_lt _ c1, ?_⟩
          rw [← h]
          conv => rhs; rw [← Nat.mod_add_div k (cyc f N p), itr_add, itr_mul c3]
    refine xr_iload dX2_ringLength_6 rfl ?_
    refine xr_aload0 dX2_ringLength_8 rfl ?_
    refine xr_getR dX2_ringLength_9 fk_2_15 lay_27 rfl ?_
    refine xr_iload2 dX2_ringLength_12 rfl ?_
    refine xr_ialdv n dX2_ringLength_13 lay_29 rfl (by omega) (by decide) v29 ?_
    refine xr_icmp_ge 86 dX2_ringLength_14 (by decide) (fun hge => ?_) (fun hge => ?_)
    · exact K86 (by have := nle hge; omega)
    have hrN := nlt hge
    have vd := d1 _ hat
    refine xr_aload0 dX2_ringLength_17 rfl ?_
    refine xr_getR dX2_ringLength_18 fk_2_21 lay_27 rfl ?_
    refine xr_iload dX2_ringLength_21 rfl ?_
    refine xr_ialdv (itr f r p) dX2_ringLength_23 lay_31 rfl (by omega) (by decide) vd ?_
    refine xr_if_ge 86 dX2_ringLength_24 (by decide) (fun hv => ?_) (fun hv => ?_)
    · refine K86 ?_
      rcases Nat.lt_or_ge r (cyc f N p) with q | q
      · rw [vis_f (fun h => by
          rcases h with h | ⟨k, hk, h⟩
          · exact hVit r h
          · exact hnew r k q hk h.symm)] at hv
        exact absurd hv (by decide)
      · omega
    have hrc : r < cyc f N p := by
      rcases Nat.lt_or_ge r (cyc f N p) with q | q
      · exact q
      · have : r = cyc f N p := by omega
        rw [vis_t (Or.inr ⟨0, by omega, by rw [this, c3]; rfl⟩)] at hv
        exact absurd (by decide) hv
    have IH := IH hrc
    refine xr_aload0 dX2_ringLength_27 rfl ?_
    refine xr_getR dX2_ringLength_28 fk_2_21 lay_27 rfl ?_
    refine xr_iload dX2_ringLength_31 rfl ?_
    refine xr_ic0 dX2_ringLength_33 ?_
    refine xr_iast (itr f r p) dX2_ringLength_34 lay_31 rfl (by omega) (by decide) ?_
    generalize hI2 : va_up I1 31 (upd (I1 31) (itr f r p) 0) = I2
    have e2 : ∀ a, a ≠ 31 → I2 a = I a := fun a ha => by rw [← hI2, va_up_ne _ _ ha]; exact e1 a ha
    have d2 : ∀ q, q < N → I2 31 q = vis (fun q => V q ∨ ∃ k, k < r + 1 ∧ itr f k p = q) q := fun q hq => by
      rw [← hI2, up_same]
      by_cases e : q = itr f r p
      · rw [e, upd_same, vis_t (Or.inr ⟨r, by omega, rfl⟩)]
      · rw [upd_ne _ _ e, d1 q hq]
        refine vis_eq ⟨fun h => ?_, fun h => ?_⟩
        · rcases h with h | ⟨k, hk, h⟩
          · exact Or.inl h
          · exact Or.inr ⟨k, by omega, h⟩
        · rcases h with h | ⟨k, hk, h⟩
          · exact Or.inl h
          · rcases Nat.lt_or_ge k r with g | g
            · exact Or.inr ⟨k, g, h⟩
            · have : k = r := by omega
              rw [this] at h
              exact absurd h.symm e
    have hwd : cWd I2 J w ws := hs.cg (e2 w (by omega)) rfl
    have Li : ∀ i, i ≤ ws.length → xT G M_X2_ringLength (xMQ G (xpi fun v I' J' => v = nI (cyc f N p) ∧ (∀ q, q < N → I' 31 q = vis (fun q => V q ∨ ∃ k, itr f k p = q) q) ∧ (∀ a, a ≠ 31 → I' a = I a) ∧ J = J')) 38 [some (.ref (G.1 27)), some (.ref (G.1 w)), some (.int (nI n)), some (.int (nI p)), some (.int (nI r)), some (.int (nI (wkp M n (ws.take i) (itr f r p)))), some (.int (nI i))] [] I2 J := by
      refine x_for (fun i hi IHi => ?_)
      refine xr_iload dX2_ringLength_38 rfl ?_
      refine xr_aload1 dX2_ringLength_40 rfl ?_
      refine xr_getIv dX2_ringLength_41 fk_2_85 hw rfl hwd.2 ?_
      refine xr_icmp_ge 80 dX2_ringLength_44 (by decide) (fun hc => ?_) (fun hc => ?_)
      · have : i = ws.length := by have := nle hc; omega
        subst this
        refine xr_iinc dX2_ringLength_80 rfl ii_1 (Nat.le_of_ble_eq_true rfl) ?_
        show xT _ _ _ 83 [_, _, _, _, _, _, _] _ _ _
        refine xr_goto 6 dX2_ringLength_83 (by decide) ?_
        rw [k_1, nI_add, List.take_length, hf, show f (itr f r p) = itr f (r + 1) p from (itr_succ f r p).symm]
        exact IH I2 _ d2 e2
      have hil := nlt hc
      have IHi := IHi hil
      have hq := hok i (itr f r p)
      have hm16 := h16.2 _ (List.getElem_mem hil)
      have hmm : ws[i] ∈ mMarks M := marks_in (hB.ok _ (List.getElem_mem hil))
      rw [hstep i hil] at IHi
      generalize wkp M n (ws.take i) (itr f r p) = q at *
      have v30 : I2 30 n = nI (sK (mK M) n) := by rw [e2 30 (by decide)]; exact t2
      have vt : I2 28 (512 * ws[i] + sK (mK M) n + q) = nI (mkp M n ws[i] q) := by rw [e2 28 (by decide)]; exact t3 _ hmm q hq
      refine xr_aload0 dX2_ringLength_47 rfl ?_
      refine xr_getR dX2_ringLength_48 fk_2_11 lay_27 rfl ?_
      refine xr_aload1 dX2_ringLength_51 rfl ?_
      refine xr_iload dX2_ringLength_52 rfl ?_
      refine xr_cVi [_] dX2_ringLength_54 (xcv_of cf_X7_mark ml_2_90 (by decide)) rfl hw rfl rfl rfl (Nat.le_of_ble_eq_true rfl) (c7_mark hw hwd h16 hil) (fun v I3 J3 hc3 => ?_)
      obtain ⟨rfl, rfl, rfl⟩ := hc3
      refine xr_sip si_512 dX2_ringLength_57 ?_
      refine xr_imul dX2_ringLength_60 ?_
      refine xr_aload0 dX2_ringLength_61 rfl ?_
      refine xr_getR dX2_ringLength_62 fk_2_18 lay_27 rfl ?_
      refine xr_iload2 dX2_ringLength_65 rfl ?_
      refine xr_ialdv n dX2_ringLength_66 lay_30 rfl (by omega) (by decide) v30 ?_
      refine xr_iadd dX2_ringLength_67 ?_
      refine xr_iload dX2_ringLength_68 rfl ?_
      refine xr_iadd dX2_ringLength_70 ?_
      rw [show (512 : Int32) = nI 512 from rfl, pk_mul, nI_add, nI_add, Nat.mul_comm _ 512]
      refine xr_ialdv (512 * ws[i] + sK (mK M) n + q) dX2_ringLength_71 lay_28 rfl (by omega) (by decide) vt ?_
      refine xr_istore dX2_ringLength_72 (Nat.le_of_ble_eq_true rfl) ?_
      show xT _ _ _ 74 [_, _, _, _, _, _, _] _ _ _
      refine xr_iinc dX2_ringLength_74 rfl ii_1 (Nat.le_of_ble_eq_true rfl) ?_
      show xT _ _ _ 77 [_, _, _, _, _, _, _] _ _ _
      refine xr_goto 38 dX2_ringLength_77 (by decide) ?_
      rw [k_1, nI_add]
      exact IHi
    have := Li 0 (Nat.zero_le _)
    rw [h0 _ hat] at this
    refine xr_ic0 dX2_ringLength_35 ?_
    refine xr_istore dX2_ringLength_36 (Nat.le_of_ble_eq_true rfl) ?_
    show xT _ _ _ 38 [_, _, _, _, _, _, _] _ _ _
    exact this
  refine x_ent (by decide) (Nat.le_of_ble_eq_true rfl) rfl ?_
  show xT _ _ _ 0 [_, _, _, _, _, _, _] _ _ _
  refine xr_ic0 dX2_ringLength_0 ?_
  refine xr_istore dX2_ringLength_1 (Nat.le_of_ble_eq_true rfl) ?_
  show xT _ _ _ 3 [_, _, _, _, _, _, _] _ _ _
  refine xr_iload3 dX2_ringLength_3 rfl ?_
  refine xr_istore dX2_ringLength_4 (Nat.le_of_ble_eq_true rfl) ?_
  show xT _ _ _ 6 [_, _, _, _, _, _, _] _ _ _
  refine L 0 (Nat.zero_le _) I _ (fun q hq => ?_) (fun _ _ => rfl)
  rw [hd q hq]
  exact vis_eq ⟨Or.inl, fun h => h.elim id (fun ⟨k, hk, _⟩ => absurd hk (Nat.not_lt_zero _))⟩
end C27
