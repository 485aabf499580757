section C18
variable {G : xG} {I : xI} {J : xJ}
theorem sg_add {t : Nat} (ht : isKT t 200 512) {ks : List kK} (hk : kT I J t 200 512 ks) {σ : Nat → kK} {arr : Nat → Int32} {i : Nat} (hn : nmb σ arr ks i) (hi : i < 200) : xCon G M_X0_add [.ref (G.1 t), .long (σ i).1, .int (σ i).2] I J (xpi fun v I' J' => ∃ j ks', v = nI j ∧ kT I' J' t 200 512 ks' ∧ nmb σ (upd arr i (nI j)) ks' (i + 1) ∧ cfx [t, t + 1, t + 2, t + 3] I J I' J') := by
  refine (c0_add ht kZ_p hk (σ i).1 (σ i).2).mono (fun r I' J' hq => ?_)
  obtain ⟨v, rfl, hq⟩ := hq
  refine ⟨v, rfl, ?_⟩
  rcases hq with ⟨j, e, hv, rfl, rfl⟩ | ⟨-, hl, -⟩ | ⟨hm, hl, hv, hk', f⟩
  · exact ⟨j, ks, hv, hk, hn.old e, cfx.rf⟩
  · obtain ⟨c, -, -, h3⟩ := hn
    have := cnt_le (fstB σ) i
    omega
  · exact ⟨ks.length, _, hv, hk', hn.new hm, f⟩
theorem kT.nodup {t n sz : Nat} {ks : List kK} (h : kT I J t n sz ks) : ks.Nodup ∧ I t 3 = nI ks.length := by
  obtain ⟨st, V, h⟩ := h
  exact ⟨h.2.2.2.2.2.2.2.1, h.1⟩
theorem c4_keepRound {p : Nat} (hp : isPl p) {rc m : Nat} (h12 : I p 12 = nI rc) (hrc : rc ≤ 14) (h10 : I p 10 = nI m) (hm : m ≤ 200) : xCon G M_X4_keepRound [.ref (G.1 p)] I J (xpv fun I' J' => I' p 12 = nI (min (rc + 1) 14) ∧ (rc < 14 → ∀ h, h < m → I' (p + 13) (200 * rc + h) = I (p + 11) h) ∧ (∀ j, j < 200 * rc → I' (p + 13) j = I (p + 13) j) ∧ (∀ a, a ≠ p → a ≠ p + 13 → I' a = I a) ∧ (∀ j, j ≠ 12 → I' p j = I p j) ∧ J = J') := by
  refine x_ent (by decide) (Nat.le_of_ble_eq_true rfl) rfl ?_
  show xT _ _ _ 0 [_] _ _ _
  refine xr_aload0 dX4_keepRound_0 rfl ?_
  refine xr_getIv dX4_keepRound_1 fk_4_59 hp.1 rfl h12 ?_
  refine xr_bip bi_14 dX4_keepRound_4 ?_
  refine xr_icmp_ge 43 dX4_keepRound_6 (by decide) (fun hc => ?_) (fun hc => ?_)
  · have : rc = 14 := by have := nle (b := 14) hc; omega
    subst this
    refine xr_vret dX4_keepRound_43 rfl rfl ⟨h12, fun q => absurd q (by decide), fun j _ => rfl, fun a _ _ => rfl, fun j _ => rfl, rfl⟩
  have hlt : rc < 14 := nlt (b := 14) hc
  refine xr_aload0 dX4_keepRound_9 rfl ?_
  refine xr_getR dX4_keepRound_10 fk_4_30 hp.1 rfl ?_
  refine xr_ic0 dX4_keepRound_13 ?_
  refine xr_aload0 dX4_keepRound_14 rfl ?_
  refine xr_getR dX4_keepRound_15 fk_4_36 hp.1 rfl ?_
  refine xr_aload0 dX4_keepRound_18 rfl ?_
  refine xr_getIv dX4_keepRound_19 fk_4_59 hp.1 rfl h12 ?_
  refine xr_sip si_200 dX4_keepRound_22 ?_
  show xT _ _ _ 25 _ _ _ _
  refine xr_imul dX4_keepRound_25 ?_
  refine xr_aload0 dX4_keepRound_26 rfl ?_
  refine xr_getIv dX4_keepRound_27 fk_4_53 hp.1 rfl h10 ?_
  rw [show (200 : Int32) = nI 200 from rfl, pk_mul]
  refine xr_copyi (sp := 0) (dp := rc * 200) (n := m) dX4_keepRound_30 ml_4_110 hp.2.2.2.2.2.1 hp.2.2.2.2.2.2.2.1 (by omega) (by omega) (by decide) (by decide) (by decide) (by decide) ?_
  generalize hI1 : va_up I (p + 13) (va_cpy (I (p + 11)) (I (p + 13)) 0 (rc * 200) m) = I1
  have e1 : I1 p = I p := by rw [← hI1, va_up_ne _ _ (by omega)]
  have h12' : I1 p 12 = nI rc := by rw [e1]; exact h12
  refine xr_aload0 dX4_keepRound_33 rfl ?_
  refine xr_dup dX4_keepRound_34 rfl ?_
  refine xr_getIv dX4_keepRound_35 fk_4_59 hp.1 rfl h12' ?_
  refine xr_ic1 dX4_keepRound_38 ?_
  refine xr_iadd dX4_keepRound_39 ?_
  rw [k_1, nI_add]
  refine xr_putI dX4_keepRound_40 fp_4_59 hp.1 rfl ?_
  refine xr_vret dX4_keepRound_43 rfl rfl ⟨?_, fun _ h hh => ?_, fun j hj => ?_, fun a h1 h2 => ?_, fun j hj => ?_, rfl⟩
  · rw [up_same, upd_same, Nat.min_eq_left (by omega)]
  · rw [va_up_ne _ _ (by omega), ← hI1, up_same, pk_cpy_in (by omega) (by omega)]
    congr 1
    omega
  · rw [va_up_ne _ _ (by omega), ← hI1, up_same, pk_cpy_out (Or.inl (by omega))]
  · rw [va_up_ne _ _ h1, ← hI1, va_up_ne _ _ h2]
  · rw [up_same, upd_ne _ _ hj, e1]
/-- parts and writings of all words of the pool -/
def pFl (I : xI) (M : xMac) (p : Nat) (hs : List (List Nat)) : Prop := ∀ h (hh : h < hs.length), I (p + 10) h = nI (wrt M hs[h] (mK M)) ∧ ∀ x, x < mK M → ∃ j, I (p + 9) (4 * h + x) = nI j ∧ hs[j]? = some (wpart M hs[h] x)
theorem pFo.fl {M : xMac} {p : Nat} {hs : List (List Nat)} (h : pFo I M p hs hs.length) : pFl I M p hs := fun k hk => h.2.2 k hk hk
def pjF (I : xI) (p h x : Nat) : Nat := w2n (I (p + 9) (4 * h + x))
theorem pFl.pj {M : xMac} {p : Nat} {hs : List (List Nat)} (hf : pFl I M p hs) (hl : hs.length ≤ 200) {h x : Nat} (hh : h < hs.length) (hx : x < mK M) : I (p + 9) (4 * h + x) = nI (pjF I p h x) ∧ pjF I p h x < hs.length ∧ hs.getD (pjF I p h x) [] = wpart M (hs.getD h []) x := by
  obtain ⟨j, h1, h2⟩ := (hf h hh).2 x hx
  have hj := (List.getElem?_eq_some_iff.mp h2).1
  have e : pjF I p h x = j := by unfold pjF; rw [h1, w2n_nI (by omega)]
  rw [e]
  refine ⟨h1, hj, ?_⟩
  rw [getD_at h2, getD_lt hh]
def sgL (I : xI) (p : Nat) (c : Nat → Nat) (h n : Nat) : List Nat := c h :: (List.range n).map (fun x => c (pjF I p h x))
theorem sgL_succ (I : xI) (p : Nat) (c : Nat → Nat) (h n : Nat) : sgL I p c h (n + 1) = sgL I p c h n ++ [c (pjF I p h n)] := by
  unfold sgL
  rw [List.range_succ, List.map_append]
  rfl
theorem eqn_sg {M : xMac} {n : Nat} (hn : 1 ≤ n) {a b : List Nat} : wEqn M (n + 1) a b ↔ wEqn M n a b ∧ ∀ x, x < mK M → wEqn M n (wpart M a x) (wpart M b x) := by
  constructor
  · exact fun h => ⟨h.pred, fun x hx => (h x hx).2⟩
  · rintro ⟨h1, h2⟩ x hx
    refine ⟨?_, h2 x hx⟩
    obtain ⟨m, rfl⟩ : ∃ m, n = m + 1 := ⟨n - 1, by omega⟩
    exact (h1 x hx).1
theorem c4_refine {M : xMac} (hK4 : mK M ≤ 4) {p : Nat} (hp : isPl p) {hs : List (List Nat)} (hl : hs.length ≤ 200) (h10 : I p 10 = nI hs.length) (h8 : I p 8 = nI (mK M)) (hf : pFl I M p hs) (hsg : ∃ ks, kT I J (p + 5) 200 512 ks) {n : Nat} (hn : 1 ≤ n) {c : Nat → Nat} (hc : isCls M hs n (I (p + 11)) c hs.length) : xCon G M_X4_refine [.ref (G.1 p)] I J (xpv fun I' J' => (∃ c', isCls M hs (n + 1) (I' (p + 11)) c' hs.length) ∧ I' p 11 = nI (ncl M hs (n + 1)) ∧ (∃ ks, kT I' J' (p + 5) 200 512 ks) ∧ cfx [p, p + 5, p + 5 + 1, p + 5 + 2, p + 5 + 3, p + 11, p + 12] I J I' J' ∧ (∀ j, j ≠ 11 → I' p j = I p j)) := by
  have hcl : ∀ h, h < hs.length → c h < 200 := fun h hh => by
    have := (hc.1 h hh).2
    have := cnt_le (wFst M hs n) hs.length
    omega
  generalize hσ : (fun h => ((lN (b8 (sgL I p c h (mK M))), 0) : kK)) = σ
  have hσh : ∀ h, σ h = (lN (b8 (sgL I p c h (mK M))), 0) := fun h => by rw [← hσ]
  have hsl : ∀ h m, h < hs.length → m ≤ mK M → (∀ x ∈ sgL I p c h m, x < 256) ∧ (sgL I p c h m).length = m + 1 := fun h m hh hm => by
    refine ⟨fun x hx => ?_, by simp [sgL]⟩
    unfold sgL at hx
    rcases List.mem_cons.mp hx with q | q
    · rw [q]; have := hcl h hh; omega
    · obtain ⟨y, hy, rfl⟩ := List.mem_map.mp q
      have := hcl _ (hf.pj hl hh (x := y) (by have := List.mem_range.mp hy; omega)).2.1
      omega
  have hs64 : ∀ h m, h < hs.length → m ≤ mK M → b8 (sgL I p c h m) < 2 ^ 40 := fun h m hh hm => by
    obtain ⟨a, b⟩ := hsl h m hh hm
    have h1 := b8_lt a
    rw [b] at h1
    have h2 : 256 ^ (m + 1) ≤ 256 ^ 5 := Nat.pow_le_pow_right (by decide) (by omega)
    have h3 : 256 ^ 5 = 2 ^ 40 := by decide
    omega
  have hiff : ∀ g h, g < hs.length → h < hs.length → (σ g = σ h ↔ wEqn M (n + 1) (hs.getD g []) (hs.getD h [])) := fun g h hg hh => by
    rw [hσh, hσh, eqn_sg hn]
    have hl1 := hs64 g (mK M) hg (Nat.le_refl _)
    have hl2 := hs64 h (mK M) hh (Nat.le_refl _)
    have key : ∀ x, x < mK M → (c (pjF I p g x) = c (pjF I p h x) ↔ wEqn M n (wpart M (hs.getD g []) x) (wpart M (hs.getD h []) x)) := fun x hx => by
      obtain ⟨-, a2, a3⟩ := hf.pj hl hg hx
      obtain ⟨-, b2, b3⟩ := hf.pj hl hh hx
      rw [← a3, ← b3]
      exact hc.2 _ _ a2 b2
    constructor
    · intro e
      have e1 := lN_inj (by omega) (by omega) (congrArg Prod.fst e)
      have e2 := b8_inj (hsl g _ hg (Nat.le_refl _)).1 (hsl h _ hh (Nat.le_refl _)).1 (by rw [(hsl g _ hg (Nat.le_refl _)).2, (hsl h _ hh (Nat.le_refl _)).2]) e1
      unfold sgL at e2
      obtain ⟨e3, e4⟩ := List.cons.inj e2
      refine ⟨(hc.2 g h hg hh).mp e3, fun x hx => (key x hx).mp ?_⟩
      exact List.map_inj_left.mp e4 x (List.mem_range.mpr hx)
    · rintro ⟨e1, e2⟩
      have : sgL I p c g (mK M) = sgL I p c h (mK M) := by
        unfold sgL
        rw [(hc.2 g h hg hh).mpr e1]
        congr 1
        exact List.map_inj_left.mpr (fun x hx => (key x (List.mem_range.mp hx)).mpr (e2 x (List.mem_range.mp hx)))
      rw [this]
  have L : ∀ i, i ≤ hs.length → ∀ I1 J1 (z2 z3 z4 : Option Value) ks, cfx [p + 5, p + 5 + 1, p + 5 + 2, p + 5 + 3, p + 12] I J I1 J1 → kT I1 J1 (p + 5) 200 512 ks → nmb σ (I1 (p + 12)) ks i → xT G M_X4_refine (xMQ G (xpv fun I' J' => (∃ c', isCls M hs (n + 1) (I' (p + 11)) c' hs.length) ∧ I' p 11 = nI (ncl M hs (n + 1)) ∧ (∃ ks, kT I' J' (p + 5) 200 512 ks) ∧ cfx [p, p + 5, p + 5 + 1, p + 5 + 2, p + 5 + 3, p + 11, p + 12] I J I' J' ∧ (∀ j, j ≠ 11 → I' p j = I p j))) 9 [some (.ref (G.1 p)), some (.int (nI i)), z2, z3, z4] [] I1 J1 := by
    refine x_for (fun i hi IH I1 J1 z2 z3 z4 ks f1 k1 n1 => ?_)
    have ep : I1 p = I p := (f1 p (by simp only [List.mem_cons, List.not_mem_nil, or_false]; omega)).1
    have e11 : I1 (p + 11) = I (p + 11) := (f1 (p + 11) (by simp only [List.mem_cons, List.not_mem_nil, or_false]; omega)).1
    have e9 : I1 (p + 9) = I (p + 9) := (f1 (p + 9) (by simp only [List.mem_cons, List.not_mem_nil, or_false]; omega)).1
    have v10 : I1 p 10 = nI hs.length := by rw [ep]; exact h10
    have v8 : I1 p 8 = nI (mK M) := by rw [ep]; exact h8
    refine xr_iload1 dX4_refine_9 rfl ?_
    refine xr_aload0 dX4_refine_10 rfl ?_
    refine xr_getIv dX4_refine_11 fk_4_53 hp.1 rfl v10 ?_
    refine xr_icmp_ge 87 dX4_refine_14 (by decide) (fun hcc => ?_) (fun hcc => ?_)
    · have : i = hs.length := by have := nle hcc; omega
      subst this
      obtain ⟨⟨c', hc'⟩, hlen⟩ := n1.cls k1.nodup.1 hiff
      have hcnt := k1.nodup.2
      refine xr_aload0 dX4_refine_87 rfl ?_
      refine xr_aload0 dX4_refine_88 rfl ?_
      refine xr_getR dX4_refine_89 fk_4_20 hp.1 rfl ?_
      refine xr_getIv dX4_refine_92 fk_4_93 hp.2.2.1.1 rfl hcnt ?_
      refine xr_putI dX4_refine_95 fp_4_56 hp.1 rfl ?_
      generalize hI2 : va_up I1 p (upd (I1 p) 11 (nI ks.length)) = I2
      have v10' : I2 p 10 = nI hs.length := by rw [← hI2, up_same, upd_ne _ _ (by decide)]; exact v10
      refine xr_aload0 dX4_refine_98 rfl ?_
      refine xr_getR dX4_refine_99 fk_4_33 hp.1 rfl ?_
      refine xr_ic0 dX4_refine_102 ?_
      refine xr_aload0 dX4_refine_103 rfl ?_
      refine xr_getR dX4_refine_104 fk_4_30 hp.1 rfl ?_
      refine xr_ic0 dX4_refine_107 ?_
      refine xr_aload0 dX4_refine_108 rfl ?_
      refine xr_getIv dX4_refine_109 fk_4_53 hp.1 rfl v10' ?_
      show xT _ _ _ 112 _ _ _ _
      refine xr_copyi (sp := 0) (dp := 0) (n := hs.length) dX4_refine_112 ml_4_110 hp.2.2.2.2.2.2.1 hp.2.2.2.2.2.1 (by omega) (by omega) (by decide) (by decide) (by decide) (by decide) ?_
      have e12 : I2 (p + 12) = I1 (p + 12) := by rw [← hI2, va_up_ne _ _ (by omega)]
      refine xr_vret dX4_refine_115 rfl rfl ⟨⟨c', fun h hh => ?_, hc'.2⟩, ?_, ⟨ks, k1.cg (fun a h1 h2 => ⟨?_, rfl⟩)⟩, ?_, fun j hj => ?_⟩
      · obtain ⟨u1, u2⟩ := hc'.1 h hh
        refine ⟨?_, u2⟩
        rw [up_same, pk_cpy_in (by omega) (by omega), e12, Nat.sub_zero, Nat.zero_add]
        exact u1
      · rw [va_up_ne _ _ (by omega), ← hI2, up_same, upd_same, hlen]
      · rw [va_up_ne _ _ (by omega), ← hI2, va_up_ne _ _ (by omega)]
      · rw [← hI2]
        exact ((f1.mono (by simp)).up _ (by simp)).up _ (by simp)
      · rw [va_up_ne _ _ (by omega), ← hI2, up_same, upd_ne _ _ hj, ep]
    have hil := nlt hcc
    have IH := IH hil
    have v11 : I1 (p + 11) i = nI (c i) := by rw [e11]; exact (hc.1 i hil).1
    have Lx : ∀ x, x ≤ mK M → xT G M_X4_refine (xMQ G (xpv fun I' J' => (∃ c', isCls M hs (n + 1) (I' (p + 11)) c' hs.length) ∧ I' p 11 = nI (ncl M hs (n + 1)) ∧ (∃ ks, kT I' J' (p + 5) 200 512 ks) ∧ cfx [p, p + 5, p + 5 + 1, p + 5 + 2, p + 5 + 3, p + 11, p + 12] I J I' J' ∧ (∀ j, j ≠ 11 → I' p j = I p j))) 28 [some (.ref (G.1 p)), some (.int (nI i)), some (.long (lN (b8 (sgL I p c i x)))), none, some (.int (nI x))] [] I1 J1 := by
      refine x_for (fun x hx IHx => ?_)
      refine xr_iload dX4_refine_28 rfl ?_
      refine xr_aload0 dX4_refine_30 rfl ?_
      refine xr_getIv dX4_refine_31 fk_4_46 hp.1 rfl v8 ?_
      refine xr_icmp_ge 66 dX4_refine_34 (by decide) (fun hcx => ?_) (fun hcx => ?_)
      · have : x = mK M := by have := nle hcx; omega
        subst this
        have hadd := sg_add (G := G) hp.2.2.1 k1 n1 (by omega)
        rw [hσh] at hadd
        refine xr_aload0 dX4_refine_66 rfl ?_
        refine xr_getR dX4_refine_67 fk_4_33 hp.1 rfl ?_
        refine xr_iload1 dX4_refine_70 rfl ?_
        refine xr_aload0 dX4_refine_71 rfl ?_
        refine xr_getR dX4_refine_72 fk_4_20 hp.1 rfl ?_
        refine xr_lload2 dX4_refine_75 rfl ?_
        refine xr_ic0 dX4_refine_76 ?_
        refine xr_cVi [_, _] dX4_refine_77 (xcv_of cf_X0_add ml_4_83 (by decide)) rfl hp.2.2.1.1 rfl rfl rfl (Nat.le_of_ble_eq_true rfl) (hadd) (fun v I2 J2 hc2 => ?_)
        obtain ⟨j, ks', rfl, k2, n2, f2⟩ := hc2
        have e12 : I2 (p + 12) = I1 (p + 12) := (f2 (p + 12) (by simp only [List.mem_cons, List.not_mem_nil, or_false]; omega)).1
        refine xr_iast i dX4_refine_80 hp.2.2.2.2.2.2.1 rfl (by omega) (by first | decide | omega) ?_
        refine xr_iinc dX4_refine_81 rfl ii_1 (Nat.le_of_ble_eq_true rfl) ?_
        show xT _ _ _ 84 [_, _, _, _, _] _ _ _
        refine xr_goto 9 dX4_refine_84 (by decide) ?_
        rw [k_1, nI_add]
        refine IH _ J2 _ _ _ ks' ((f1.tr (f2.mono (by simp))).up _ (by simp)) (k2.cg (fun a h1 h2 => ⟨by rw [va_up_ne _ _ (by omega)], rfl⟩)) ?_
        rw [up_same, e12]
        exact n2
      have hxl := nlt hcx
      have IHx := IHx hxl
      obtain ⟨q1, q2, q3⟩ := hf.pj hl hil hxl
      have v9 : I1 (p + 9) (4 * i + x) = nI (pjF I p i x) := by rw [e9]; exact q1
      have v11' : I1 (p + 11) (pjF I p i x) = nI (c (pjF I p i x)) := by rw [e11]; exact (hc.1 _ q2).1
      have hcx' := hcl _ q2
      have hb := hs64 i x hil (by omega)
      rw [sgL_succ, b8_snoc] at IHx
      refine xr_lload2 dX4_refine_37 rfl ?_
      refine xr_bip bi_8 dX4_refine_38 ?_
      refine xr_lshl dX4_refine_40 ?_
      refine xr_aload0 dX4_refine_41 rfl ?_
      refine xr_getR dX4_refine_42 fk_4_30 hp.1 rfl ?_
      refine xr_aload0 dX4_refine_45 rfl ?_
      refine xr_getR dX4_refine_46 fk_4_23 hp.1 rfl ?_
      refine xr_iload1 dX4_refine_49 rfl ?_
      show xT _ _ _ 50 _ _ _ _
      refine xr_ic4 dX4_refine_50 ?_
      refine xr_imul dX4_refine_51 ?_
      refine xr_iload dX4_refine_52 rfl ?_
      refine xr_iadd dX4_refine_54 ?_
      rw [k_4, pk_mul, nI_add, Nat.mul_comm]
      refine xr_ialdv (4 * i + x) dX4_refine_55 hp.2.2.2.1 rfl (by omega) (by first | decide | omega) v9 ?_
      refine xr_ialdv (pjF I p i x) dX4_refine_56 hp.2.2.2.2.2.1 rfl (by omega) (by first | decide | omega) v11' ?_
      refine xr_i2l dX4_refine_57 ?_
      refine xr_lor dX4_refine_58 ?_
      rw [l8_push (by omega) (by omega)]
      refine xr_lstore2 dX4_refine_59 (Nat.le_of_ble_eq_true rfl) ?_
      show xT _ _ _ 60 [_, _, _, _, _] _ _ _
      refine xr_iinc dX4_refine_60 rfl ii_1 (Nat.le_of_ble_eq_true rfl) ?_
      show xT _ _ _ 63 [_, _, _, _, _] _ _ _
      refine xr_goto 28 dX4_refine_63 (by decide) ?_
      rw [k_1, nI_add]
      exact IHx
    refine xr_aload0 dX4_refine_17 rfl ?_
    refine xr_getR dX4_refine_18 fk_4_30 hp.1 rfl ?_
    refine xr_iload1 dX4_refine_21 rfl ?_
    refine xr_ialdv i dX4_refine_22 hp.2.2.2.2.2.1 rfl (by omega) (by first | decide | omega) v11 ?_
    refine xr_i2l dX4_refine_23 ?_
    refine xr_lstore2 dX4_refine_24 (Nat.le_of_ble_eq_true rfl) ?_
    show xT _ _ _ 25 [_, _, _, _, _] _ _ _
    refine xr_ic0 dX4_refine_25 ?_
    refine xr_istore dX4_refine_26 (Nat.le_of_ble_eq_true rfl) ?_
    show xT _ _ _ 28 [_, _, _, _, _] _ _ _
    have h0 : (nI (c i)).toInt64 = lN (b8 (sgL I p c i 0)) := by
      have := hcl i hil
      rw [nI_l (by omega)]
      simp [sgL, b8]
    rw [h0]
    exact Lx 0 (Nat.zero_le _)
  obtain ⟨ks, hks⟩ := hsg
  refine x_ent (by decide) (Nat.le_of_ble_eq_true rfl) rfl ?_
  show xT _ _ _ 0 [_, _, _, _, _] _ _ _
  refine xr_aload0 dX4_refine_0 rfl ?_
  refine xr_getR dX4_refine_1 fk_4_20 hp.1 rfl ?_
  refine xr_cVv [] dX4_refine_4 (xcv_of cf_X0_clear ml_4_62 (by decide)) rfl hp.2.2.1.1 rfl rfl rfl (Nat.le_of_ble_eq_true rfl) (c0_clear hp.2.2.1 kZ_p hks) (fun I1 J1 hc1 => ?_)
  obtain ⟨k1, f1⟩ := hc1
  refine xr_ic0 dX4_refine_7 ?_
  refine xr_istore1 dX4_refine_8 (Nat.le_of_ble_eq_true rfl) ?_
  show xT _ _ _ 9 [_, _, _, _, _] _ _ _
  exact L 0 (Nat.zero_le _) I1 J1 _ _ _ [] (f1.mono (by simp)) k1 nmb.nil
end C18
