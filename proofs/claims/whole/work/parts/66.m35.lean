section M35
variable {G : xG} {I : xI} {J : xJ}
def lsum (c : Nat → Nat) : Nat → Nat
  | 0 => 0
  | p + 1 => lsum c p + c p
theorem lsum_le {c c' : Nat → Nat} : ∀ {N : Nat}, (∀ p, p < N → c' p ≤ c p) → lsum c' N ≤ lsum c N
  | 0, _ => Nat.le_refl _
  | N + 1, h => Nat.add_le_add (lsum_le (fun p hp => h p (by omega))) (h N (by omega))
theorem lsum_lt {c c' : Nat → Nat} : ∀ {N : Nat}, (∀ p, p < N → c' p ≤ c p) → ∀ {g : Nat}, g < N → c' g < c g → lsum c' N < lsum c N
  | 0, _, g, hg, _ => absurd hg (Nat.not_lt_zero _)
  | N + 1, h, g, hg, hl => by
    rcases Nat.lt_or_ge g N with q | q
    · exact Nat.add_lt_add_of_lt_of_le (lsum_lt (fun p hp => h p (by omega)) q hl) (h N (by omega))
    · have : g = N := by omega
      subst this
      exact Nat.add_lt_add_of_le_of_lt (lsum_le (fun p hp => h p (by omega))) hl
/-- labels that stand for rows that hang together -/
def lbl (M : xMac) (n : Nat) (c : Nat → Nat) : Prop := ∀ p, p < mK M ^ n → c p ≤ p ∧ conn (bst M n) (c p) p
def lblC (c : Nat → Nat) (p q : Nat) : Nat → Nat := fun x => if x = q ∨ x = p then min (c p) (c q) else c x
theorem lblC_le {c : Nat → Nat} {p q : Nat} (x : Nat) : lblC c p q x ≤ c x := by
  unfold lblC
  split
  · rename_i h
    rcases h with h | h <;> (subst h; omega)
  · exact Nat.le_refl _
theorem lblC_ok {M : xMac} {n : Nat} {c : Nat → Nat} (h : lbl M n c) {p q : Nat} (hp : p < mK M ^ n) (hq : q < mK M ^ n) (hpq : bst M n p q) : lbl M n (lblC c p q) := fun x hx => by
  refine ⟨Nat.le_trans (lblC_le x) (h x hx).1, ?_⟩
  unfold lblC
  split
  · rename_i hh
    have a := (h p hp).2
    have b := (h q hq).2
    have ab : conn (bst M n) p q := conn.one (Or.inl hpq)
    rcases Nat.le_total (c p) (c q) with q1 | q1
    · rw [Nat.min_eq_left q1]
      rcases hh with rfl | rfl
      · exact a.tr ab
      · exact a
    · rw [Nat.min_eq_right q1]
      rcases hh with rfl | rfl
      · exact b
      · exact b.tr ab.sy
  · exact (h x hx).2
theorem lblC_same {c : Nat → Nat} {p q : Nat} (h : c p = c q) (x : Nat) : lblC c p q x = c x := by
  unfold lblC
  split
  · rename_i hh
    rcases hh with rfl | rfl <;> omega
  · rfl
theorem lblC_lt {c : Nat → Nat} {p q N : Nat} (hp : p < N) (hq : q < N) (h : c p ≠ c q) : lsum (lblC c p q) N < lsum c N := by
  rcases Nat.lt_or_ge (c p) (c q) with g | g
  · exact lsum_lt (fun x _ => lblC_le x) hq (by unfold lblC; rw [if_pos (Or.inl rfl)]; omega)
  · exact lsum_lt (fun x _ => lblC_le x) hp (by unfold lblC; rw [if_pos (Or.inr rfl)]; omega)
theorem lbl_end {M : xMac} {n : Nat} {c : Nat → Nat} (h : lbl M n c) (hs : ∀ p, p < mK M ^ n → ∀ m ∈ mMarks M, mBack M (m / 2) → c p = c (mkp M n m p)) (hl : ∀ p q, bst M n p q → p < mK M ^ n ∧ q < mK M ^ n) {p : Nat} (hp : p < mK M ^ n) : (c p == p) = orbF M n p := by
  have key : ∀ a b, conn (bst M n) a b → a < mK M ^ n → c a = c b ∧ b < mK M ^ n := fun a b hab ha => hab (fun x => c a = c x ∧ x < mK M ^ n) ⟨rfl, ha⟩ (fun x y hxy hx => by
    rcases hxy with hxy | hxy
    · obtain ⟨h1, m, hm, hb, rfl⟩ := hxy
      exact ⟨hx.1.trans (hs x h1 m hm hb), (hl x _ ⟨h1, m, hm, hb, rfl⟩).2⟩
    · have h2 := hl _ _ hxy
      obtain ⟨h1, m, hm, hb, rfl⟩ := hxy
      exact ⟨hx.1.trans (hs y h1 m hm hb).symm, h1⟩)
  obtain ⟨a, b⟩ := h p hp
  rw [Bool.eq_iff_iff, orbF_iff, beq_iff_eq]
  constructor
  · intro e q hq hc
    have := (key q p hc (by omega)).1
    have := (h q (by omega)).1
    omega
  · intro e
    rcases Nat.lt_or_ge (c p) p with q | q
    · exact absurd b (e _ q)
    · omega
theorem c9_orbits {S : xSt} (n : Int32) (h : mIv I S) : xCon G M_X9_orbits [.ref (G.1 77), .int n] I J (xpi fun v I' J' => v = sp_orbits S n ∧ mIv I' S ∧ mfr I J I' J') := by
  refine x_ent (by decide) (Nat.le_of_ble_eq_true rfl) rfl ?_
  show xT _ _ _ 0 [_, _, _, _, _, _] _ _ _
  refine xr_aload0 dX9_orbits_0 rfl ?_
  refine xr_iload1 dX9_orbits_1 rfl ?_
  refine xr_sip si_256 dX9_orbits_2 ?_
  rw [k_256]
  refine xr_cVi [_, _] dX9_orbits_5 (xcv_of cf_X9_rowsOf ml_9_223 (by decide)) rfl lay_77 rfl rfl rfl (Nat.le_of_ble_eq_true rfl) (c9_rowsOf h.2.1 n (by decide) (by decide)) (fun v I1 J1 hc => ?_)
  obtain ⟨rfl, rfl, rfl⟩ := hc
  cases hl : lvl (mK S.2.1) n 256 with
  | none =>
    have e : sp_orbits S n = -1 := by unfold sp_orbits; rw [hl]
    refine xr_if_ge 13 dX9_orbits_8 (by decide) (fun hge => ?_) (fun hge => ?_)
    · exact absurd hge (show ¬ (0 : Int32) ≤ -1 by decide)
    refine xr_icm1 dX9_orbits_11 ?_
    refine xr_iret dX9_orbits_12 rfl rfl ⟨by rw [e], h, mfr.rf⟩
  | some n' =>
  obtain ⟨rfl, hn⟩ := lvl_some hl
  have hK2 := h.2.1.1.1
  have hn8 := lvl_8 hK2 hn
  have hml := mMarks_len S.2.1
  have hN8 := h.2.1.1.2.2.1
  refine xr_if_ge 13 dX9_orbits_8 (by decide) (fun hge => ?_) (fun hge => ?_)
  rotate_left
  · exact absurd (nI_pos' (by omega)) hge
  refine xr_aload0 dX9_orbits_13 rfl ?_
  refine xr_cVi [] dX9_orbits_14 (xcv_of cf_X9_isWhole ml_9_133 (by decide)) rfl lay_77 rfl rfl rfl (Nat.le_of_ble_eq_true rfl) (c9_isWhole h.2.1) (fun v I2 J2 hc => ?_)
  obtain ⟨rfl, rfl, rfl⟩ := hc
  refine xr_if_ne 23 dX9_orbits_17 (by decide) (fun hwh => ?_) (fun hwh => ?_)
  rotate_left
  · have hwh := b2_0.mp hwh
    refine xr_bip bi_m5 dX9_orbits_20 ?_
    refine xr_iret dX9_orbits_22 rfl rfl ⟨by simp [sp_orbits, hl, hwh], h, mfr.rf⟩
  have hwh : mW S.2.1 = true := by
    cases hq : mW S.2.1 with
    | true => rfl
    | false => rw [hq] at hwh; exact absurd rfl hwh
  have hwhole := mW_iff.mp hwh
  have hM := h.2.1.1
  refine xr_aload0 dX9_orbits_23 rfl ?_
  refine xr_iload1 dX9_orbits_24 rfl ?_
  refine xr_cVv [_] dX9_orbits_25 (xcv_of cf_X9_findLevel ml_9_244 (by decide)) rfl lay_77 rfl rfl rfl (Nat.le_of_ble_eq_true rfl) (c9_findLevel h.2.1 hwhole hn) (fun I0 J0 hc => ?_)
  obtain ⟨l0, f0, rfl⟩ := hc
  have hI0 : mIv I0 S := f0.iv h (by decide) (by decide)
  have fr0 := f0.fr (J := J) (by decide) rfl
  have hbl : ∀ p q, bst S.2.1 n' p q → p < mK S.2.1 ^ n' ∧ q < mK S.2.1 ^ n' := fun p q hpq => by
    obtain ⟨h1, m, hm, hb, rfl⟩ := hpq
    exact ⟨h1, mkp_lt hM hwhole hb.okm⟩
  generalize hN : mK S.2.1 ^ n' = N at *
  have h28 : ∀ {I1}, mfx [85, 98] [] I0 I1 → I1 77 28 = nI N := fun f1 => by rw [f1.2 28 (by decide), l0.1, hN]
  have h11 : ∀ {I1}, mfx [85, 98] [] I0 I1 → I1 77 11 = nI (mMarks S.2.1).length := fun f1 => by rw [f1.2 11 (by decide), l0.2.1.1]
  have h86 : ∀ {I1}, mfx [85, 98] [] I0 I1 → ∀ t (ht : t < (mMarks S.2.1).length), I1 86 t = tok (mMarks S.2.1)[t] := fun f1 t ht => by
    rw [f1.1 86 (by decide) (by decide)]
    have := l0.2.1.2 t ht
    rw [Nat.zero_add] at this
    exact this
  have h96 : ∀ {I1}, mfx [85, 98] [] I0 I1 → ∀ t (ht : t < (mMarks S.2.1).length) p, p < N → I1 96 (256 * t + p) = nI (mkp S.2.1 n' (mMarks S.2.1)[t] p) := fun f1 t ht p hp => by
    rw [f1.1 96 (by decide) (by decide)]
    exact l0.2.2 t ht p (by rw [hN]; exact hp)
  have L4 : ∀ c, lbl S.2.1 n' c → (∀ p, p < N → ∀ m ∈ mMarks S.2.1, mBack S.2.1 (m / 2) → c p = c (mkp S.2.1 n' m p)) → ∀ I1, mfx [85, 98] [] I0 I1 → (∀ p, p < N → I1 98 p = nI (c p)) → ∀ p, p ≤ N → ∀ (z2 : Int32) (z5 : Option Value), xT G M_X9_orbits (xMQ G (xpi fun v I' J' => v = sp_orbits S (nI n') ∧ mIv I' S ∧ mfr I J I' J')) 218 [some (.ref (G.1 77)), some (.int (nI n')), some (.int z2), some (.int (nI (cnt (fun p => c p == p) p))), some (.int (nI p)), z5] [] I1 J := by
    intro c lc sc I1 f1 c1
    have h28 := h28 f1
    refine x_for (fun p hp IH z2 z5 => ?_)
    refine xr_iload dX9_orbits_218 rfl ?_
    refine xr_aload0 dX9_orbits_220 rfl ?_
    refine xr_getIv dX9_orbits_221 fk_9_226 lay_77 rfl h28 ?_
    have cl := cnt_le (fun p => c p == p) p
    refine xr_icmp_ge 253 dX9_orbits_224 (by decide) (fun hc => ?_) (fun hc => ?_)
    · have : p = N := by have := nle hc; omega
      subst this
      refine xr_iload3 dX9_orbits_253 rfl ?_
      refine xr_iret dX9_orbits_254 rfl rfl ⟨?_, f1.iv hI0 (by decide) (by decide), fun q hq => ?_⟩
      · have e : cnt (fun p => c p == p) p = cnt (orbF S.2.1 n') p := Nat.le_antisymm (cnt_mono (fun t ht q => by rw [← lbl_end lc (by rw [hN]; exact sc) (by rw [hN]; exact hbl) (by rw [hN]; exact ht)]; exact q)) (cnt_mono (fun t ht q => by rw [← lbl_end lc (by rw [hN]; exact sc) (by rw [hN]; exact hbl) (by rw [hN]; exact ht)] at q; exact q))
        rw [e]
        simp [sp_orbits, hl, hwh, hN]
      · have a1 := f1.fr (J := J) (by decide) rfl q hq
        exact ⟨a1.1.trans (fr0 q hq).1, rfl⟩
    have hpl := nlt hc
    have IH := IH hpl
    have hcp := (lc p (by omega)).1
    refine xr_iload3 dX9_orbits_227 rfl ?_
    refine xr_aload0 dX9_orbits_228 rfl ?_
    refine xr_getR dX9_orbits_229 fk_9_75 lay_77 rfl ?_
    refine xr_iload dX9_orbits_232 rfl ?_
    refine xr_ialdv p dX9_orbits_234 lay_98 rfl (by omega) (by decide) (c1 p hpl) ?_
    refine xr_iload dX9_orbits_235 rfl ?_
    refine xr_icmp_ne 244 dX9_orbits_237 (by decide) (fun hne => ?_) (fun hne => ?_)
    · have hne : (c p == p) = false := by
        rw [beq_eq_false_iff_ne]
        exact fun q => hne (by rw [q])
      refine xr_ic0 dX9_orbits_244 ?_
      refine xr_iadd dX9_orbits_245 ?_
      refine xr_istore3 dX9_orbits_246 (Nat.le_of_ble_eq_true rfl) ?_
      show xT _ _ _ 247 [_, _, _, _, _, _] _ _ _
      refine xr_iinc dX9_orbits_247 rfl ii_1 (Nat.le_of_ble_eq_true rfl) ?_
      show xT _ _ _ 250 [_, _, _, _, _, _] _ _ _
      refine xr_goto 218 dX9_orbits_250 (by decide) ?_
      rw [k_1, nI_add]
      have : cnt (fun p => c p == p) (p + 1) = cnt (fun p => c p == p) p := by
        show _ + cond (c p == p) 1 0 = _
        rw [hne]; rfl
      rw [this] at IH
      rw [Int32.add_zero]
      exact IH _ _
    · have hne : (c p == p) = true := by
        rw [beq_iff_eq]
        exact (nI_eq (by omega) (by omega)).mp hne
      refine xr_ic1 dX9_orbits_240 ?_
      refine xr_goto 245 dX9_orbits_241 (by decide) ?_
      refine xr_iadd dX9_orbits_245 ?_
      refine xr_istore3 dX9_orbits_246 (Nat.le_of_ble_eq_true rfl) ?_
      show xT _ _ _ 247 [_, _, _, _, _, _] _ _ _
      refine xr_iinc dX9_orbits_247 rfl ii_1 (Nat.le_of_ble_eq_true rfl) ?_
      show xT _ _ _ 250 [_, _, _, _, _, _] _ _ _
      refine xr_goto 218 dX9_orbits_250 (by decide) ?_
      rw [k_1, nI_add, nI_add]
      have : cnt (fun p => c p == p) (p + 1) = cnt (fun p => c p == p) p + 1 := by
        show _ + cond (c p == p) 1 0 = _
        rw [hne]; rfl
      rw [this] at IH
      exact IH _ _
  have L3 : ∀ s, ∀ c, lbl S.2.1 n' c → lsum c N = s → ∀ (b : Bool), (b = false → ∀ p, p < N → ∀ m ∈ mMarks S.2.1, mBack S.2.1 (m / 2) → c p = c (mkp S.2.1 n' m p)) → ∀ I1 (z3 z4 z5 : Option Value), mfx [85, 98] [] I0 I1 → (∀ p, p < N → I1 98 p = nI (c p)) → xT G M_X9_orbits (xMQ G (xpi fun v I' J' => v = sp_orbits S (nI n') ∧ mIv I' S ∧ mfr I J I' J')) 53 [some (.ref (G.1 77)), some (.int (nI n')), some (.int (b2 b)), z3, z4, z5] [] I1 J := by
    intro s
    induction s using x_lt with
    | h s IHs =>
    intro c0 lc0 hs0 b hb I1 z3 z4 z5 f1 c1
    refine xr_iload2 dX9_orbits_53 rfl ?_
    refine xr_if_eq 213 dX9_orbits_54 (by decide) (fun hz => ?_) (fun hz => ?_)
    · have hz := b2_0.mp hz
      subst hz
      refine xr_ic0 dX9_orbits_213 ?_
      refine xr_istore3 dX9_orbits_214 (Nat.le_of_ble_eq_true rfl) ?_
      show xT _ _ _ 215 [_, _, _, _, _, _] _ _ _
      refine xr_ic0 dX9_orbits_215 ?_
      refine xr_istore dX9_orbits_216 (Nat.le_of_ble_eq_true rfl) ?_
      show xT _ _ _ 218 [_, _, _, _, _, _] _ _ _
      exact L4 c0 lc0 (hb rfl) I1 f1 c1 0 (Nat.zero_le _) _ _
    have L2 : ∀ t, t ≤ (mMarks S.2.1).length → ∀ (c : Nat → Nat) (b : Bool) I2 (z4 z5 : Option Value), lbl S.2.1 n' c → (b = true → lsum c N < lsum c0 N) → (b = false → (∀ p, p < N → c p = c0 p) ∧ ∀ t' (ht : t' < (mMarks S.2.1).length), t' < t → mBack S.2.1 ((mMarks S.2.1)[t'] / 2) → ∀ p, p < N → c0 p = c0 (mkp S.2.1 n' (mMarks S.2.1)[t'] p)) → mfx [85, 98] [] I0 I2 → (∀ p, p < N → I2 98 p = nI (c p)) → xT G M_X9_orbits (xMQ G (xpi fun v I' J' => v = sp_orbits S (nI n') ∧ mIv I' S ∧ mfr I J I' J')) 61 [some (.ref (G.1 77)), some (.int (nI n')), some (.int (b2 b)), some (.int (nI t)), z4, z5] [] I2 J := by
      refine x_for (fun t ht IHt c b I2 z4 z5 lc bt bf f2 c2 => ?_)
      refine xr_iload3 dX9_orbits_61 rfl ?_
      refine xr_aload0 dX9_orbits_62 rfl ?_
      refine xr_getIv dX9_orbits_63 fk_9_127 lay_77 rfl (h11 f2) ?_
      refine xr_icmp_ge 210 dX9_orbits_66 (by decide) (fun hc => ?_) (fun hc => ?_)
      · have : t = (mMarks S.2.1).length := by have := nle hc; omega
        subst this
        refine xr_goto 53 dX9_orbits_210 (by decide) ?_
        cases b with
        | true => exact IHs _ (by rw [← hs0]; exact bt rfl) c lc rfl true (fun q => by cases q) I2 _ _ _ f2 c2
        | false =>
          obtain ⟨b1, b3⟩ := bf rfl
          refine xr_iload2 dX9_orbits_53 rfl ?_
          refine xr_if_eq 213 dX9_orbits_54 (by decide) (fun hz => ?_) (fun hz => ?_)
          rotate_left
          · exact absurd rfl hz
          refine xr_ic0 dX9_orbits_213 ?_
          refine xr_istore3 dX9_orbits_214 (Nat.le_of_ble_eq_true rfl) ?_
          show xT _ _ _ 215 [_, _, _, _, _, _] _ _ _
          refine xr_ic0 dX9_orbits_215 ?_
          refine xr_istore dX9_orbits_216 (Nat.le_of_ble_eq_true rfl) ?_
          show xT _ _ _ 218 [_, _, _, _, _, _] _ _ _
          refine L4 c lc (fun p hp m hm hb => ?_) I2 f2 c2 0 (Nat.zero_le _) _ _
          obtain ⟨t', ht', rfl⟩ := List.getElem_of_mem hm
          rw [b1 p hp, b1 _ (by rw [← hN]; exact mkp_lt hM hwhole hb.okm)]
          exact b3 t' ht' ht' hb p hp
      have htl := nlt hc
      have IHt := IHt htl
      have hmk := mMarks_ok S.2.1 _ (List.getElem_mem htl)
      have hm16 : (mMarks S.2.1)[t] < 16 := by
        have := hmk.1
        have := hM.2.2.1
        omega
      have L1 : ∀ p, p ≤ N → ∀ (c : Nat → Nat) (b : Bool) I2 (z5 : Option Value), lbl S.2.1 n' c → (b = true → lsum c N < lsum c0 N) → (b = false → (∀ p, p < N → c p = c0 p) ∧ (∀ t' (ht : t' < (mMarks S.2.1).length), t' < t → mBack S.2.1 ((mMarks S.2.1)[t'] / 2) → ∀ p, p < N → c0 p = c0 (mkp S.2.1 n' (mMarks S.2.1)[t'] p)) ∧ ∀ p', p' < p → c0 p' = c0 (mkp S.2.1 n' (mMarks S.2.1)[t] p')) → mfx [85, 98] [] I0 I2 → (∀ p, p < N → I2 98 p = nI (c p)) → xT G M_X9_orbits (xMQ G (xpi fun v I' J' => v = sp_orbits S (nI n') ∧ mIv I' S ∧ mfr I J I' J')) 72 [some (.ref (G.1 77)), some (.int (nI n')), some (.int (b2 b)), some (.int (nI t)), some (.int (nI p)), z5] [] I2 J := by
        refine x_for (fun p hp IHp c b I2 z5 lc bt bf f2 c2 => ?_)
        refine xr_iload dX9_orbits_72 rfl ?_
        refine xr_aload0 dX9_orbits_74 rfl ?_
        refine xr_getIv dX9_orbits_75 fk_9_226 lay_77 rfl (h28 f2) ?_
        refine xr_icmp_ge 204 dX9_orbits_78 (by decide) (fun hc => ?_) (fun hc => ?_)
        · have : p = N := by have := nle hc; omega
          subst this
          refine xr_iinc dX9_orbits_204 rfl ii_1 (Nat.le_of_ble_eq_true rfl) ?_
          show xT _ _ _ 207 [_, _, _, _, _, _] _ _ _
          refine xr_goto 61 dX9_orbits_207 (by decide) ?_
          rw [k_1, nI_add]
          refine IHt c b I2 _ _ lc bt (fun q => ⟨(bf q).1, fun t' ht' hlt hb p' hp' => ?_⟩) f2 c2
          rcases Nat.lt_or_ge t' t with g | g
          · exact (bf q).2.1 t' ht' g hb p' hp'
          · have : t' = t := by omega
            subst this
            exact (bf q).2.2 p' hp'
        have hpl := nlt hc
        have IHp := IHp hpl
        refine xr_aload0 dX9_orbits_81 rfl ?_
        refine xr_aload0 dX9_orbits_82 rfl ?_
        refine xr_getR dX9_orbits_83 fk_9_39 lay_77 rfl ?_
        refine xr_iload3 dX9_orbits_86 rfl ?_
        refine xr_ialdv t dX9_orbits_87 lay_86 rfl (by omega) (by decide) (h86 f2 t htl) ?_
        refine xr_cVi [_] dX9_orbits_88 (xcv_of cf_X9_isTokenBack ml_9_235 (by decide)) rfl lay_77 rfl rfl rfl (Nat.le_of_ble_eq_true rfl) (c9_isTokenBack (f2.mach hI0.2.1 (by decide) (by decide)) hm16) (fun v I3 J3 hc3 => ?_)
        obtain ⟨rfl, ⟨f, rfl⟩, rfl⟩ := hc3
        have f3 := f2.up (k := 85) f (by decide) (by decide)
        have c3 : ∀ p, p < N → va_up I2 85 f 98 p = nI (c p) := fun p hp => by rw [va_up_ne _ _ (by decide)]; exact c2 p hp
        generalize va_up I2 85 f = I3 at f3 c3 ⊢
        refine xr_if_eq 204 dX9_orbits_91 (by decide) (fun hbk => ?_) (fun hbk => ?_)
        · have hbk := mB_f.mp (b2_0.mp hbk)
          refine xr_iinc dX9_orbits_204 rfl ii_1 (Nat.le_of_ble_eq_true rfl) ?_
          show xT _ _ _ 207 [_, _, _, _, _, _] _ _ _
          refine xr_goto 61 dX9_orbits_207 (by decide) ?_
          rw [k_1, nI_add]
          refine IHt c b I3 _ _ lc bt (fun q => ⟨(bf q).1, fun t' ht' hlt hb p' hp' => ?_⟩) f3 c3
          rcases Nat.lt_or_ge t' t with g | g
          · exact (bf q).2.1 t' ht' g hb p' hp'
          · have : t' = t := by omega
            subst this
            exact absurd hb hbk
        have hbk : mBack S.2.1 ((mMarks S.2.1)[t] / 2) := by
          cases hq : mB S.2.1 ((mMarks S.2.1)[t] / 2) with
          | true => exact mB_iff.mp hq
          | false => rw [hq] at hbk; exact absurd rfl hbk
        have hql : mkp S.2.1 n' (mMarks S.2.1)[t] p < N := by rw [← hN]; exact mkp_lt hM hwhole hbk.okm
        have v96 := h96 f3 t htl p hpl
        have hpq : bst S.2.1 n' p (mkp S.2.1 n' (mMarks S.2.1)[t] p) := ⟨by omega, _, List.getElem_mem htl, hbk, rfl⟩
        generalize hq : mkp S.2.1 n' (mMarks S.2.1)[t] p = q at *
        have hcp := (lc p (by omega)).1
        have hcq := (lc q (by omega)).1
        have hmin : (if nI (c q) < nI (c p) then nI (c q) else nI (c p)) = nI (min (c p) (c q)) := by
          split
          · rename_i hh
            have := nltl hh
            congr 1; omega
          · rename_i hh
            have := nnlt hh
            congr 1; omega
        have J168 : ∀ b' : Bool, (b' = true ↔ b = true ∨ c p ≠ c q) → xT G M_X9_orbits (xMQ G (xpi fun v I' J' => v = sp_orbits S (nI n') ∧ mIv I' S ∧ mfr I J I' J')) 168 [some (.ref (G.1 77)), some (.int (nI n')), some (.int (b2 b)), some (.int (nI t)), some (.int (nI p)), some (.int (nI (min (c p) (c q))))] [.int (b2 b')] I3 J := by
          intro b' hb'
          refine xr_istore2 dX9_orbits_168 (Nat.le_of_ble_eq_true rfl) ?_
          show xT _ _ _ 169 [_, _, _, _, _, _] _ _ _
          refine xr_aload0 dX9_orbits_169 rfl ?_
          refine xr_getR dX9_orbits_170 fk_9_75 lay_77 rfl ?_
          refine xr_iload dX9_orbits_173 rfl ?_
          refine xr_iload dX9_orbits_175 rfl ?_
          refine xr_iast p dX9_orbits_177 lay_98 rfl (by omega) (by decide) ?_
          generalize hI4 : va_up I3 98 (upd (I3 98) p (nI (min (c p) (c q)))) = I4
          have f4 : mfx [85, 98] [] I0 I4 := by rw [← hI4]; exact f3.up _ (by decide) (by decide)
          have v96' := h96 f4 t htl p hpl
          rw [hq] at v96'
          refine xr_aload0 dX9_orbits_178 rfl ?_
          refine xr_getR dX9_orbits_179 fk_9_75 lay_77 rfl ?_
          refine xr_aload0 dX9_orbits_182 rfl ?_
          refine xr_getR dX9_orbits_183 fk_9_69 lay_77 rfl ?_
          refine xr_sip si_256 dX9_orbits_186 ?_
          refine xr_iload3 dX9_orbits_189 rfl ?_
          refine xr_imul dX9_orbits_190 ?_
          refine xr_iload dX9_orbits_191 rfl ?_
          show xT _ _ _ 193 _ _ _ _
          refine xr_iadd dX9_orbits_193 ?_
          refine xr_ialdv _ dX9_orbits_194 lay_96 (by (try simp only [k_0, k_1, k_2, k_3, k_4, k_5, k_8, k_16, k_34, k_40, k_200, k_201, k_256, k_512, nI_add, pk_mul]); first | done | rfl) (by omega) (by decide) v96' ?_
          refine xr_iload dX9_orbits_195 rfl ?_
          refine xr_iast q dX9_orbits_197 lay_98 rfl (by omega) (by decide) ?_
          refine xr_iinc dX9_orbits_198 rfl ii_1 (Nat.le_of_ble_eq_true rfl) ?_
          show xT _ _ _ 201 [_, _, _, _, _, _] _ _ _
          refine xr_goto 72 dX9_orbits_201 (by decide) ?_
          rw [k_1, nI_add]
          have c5 : ∀ x, x < N → va_up I4 98 (upd (I4 98) q (nI (min (c p) (c q)))) 98 x = nI (lblC c p q x) := fun x hx => by
            rw [up_same]
            unfold lblC
            by_cases e1 : x = q
            · rw [e1, upd_same, if_pos (Or.inl rfl)]
            · rw [upd_ne _ _ e1, ← hI4, up_same]
              by_cases e2 : x = p
              · rw [e2, upd_same, if_pos (Or.inr rfl)]
              · rw [upd_ne _ _ e2, if_neg (by simp [e1, e2])]
                exact c3 x hx
          refine IHp (lblC c p q) b' _ _ (lblC_ok lc (by omega) (by omega) hpq) (fun g => ?_) (fun g => ?_) (f4.up _ (by decide) (by decide)) c5
          · by_cases e : c p = c q
            · have hb2 : b = true := by
                rcases hb'.mp g with r | r
                · exact r
                · exact absurd e r
              exact Nat.lt_of_le_of_lt (lsum_le (fun x _ => lblC_le x)) (bt hb2)
            · have h1 := lblC_lt hpl hql e
              have h2 : lsum c N ≤ lsum c0 N := by
                cases b with
                | true => exact Nat.le_of_lt (bt rfl)
                | false => exact lsum_le (fun x hx => by rw [(bf rfl).1 x hx]; exact Nat.le_refl _)
              omega
          · have hb2 : b = false ∧ c p = c q := by
              have := mt hb'.mpr (by rw [g]; decide)
              constructor
              · cases b with
                | false => rfl
                | true => exact absurd (Or.inl rfl) this
              · exact Classical.not_not.mp (fun r => this (Or.inr r))
            obtain ⟨b1, b3, b4⟩ := bf hb2.1
            refine ⟨fun x hx => by rw [lblC_same hb2.2]; exact b1 x hx, b3, fun p' hp' => ?_⟩
            rcases Nat.lt_or_ge p' p with r | r
            · exact b4 p' r
            · have : p' = p := by omega
              subst this
              rw [hq, ← b1 _ hpl, ← b1 _ hql]
              exact hb2.2
        have hlen : 256 * t + p < 4096 := by omega
        refine xr_aload0 dX9_orbits_94 rfl ?_
        refine xr_getR dX9_orbits_95 fk_9_75 lay_77 rfl ?_
        refine xr_iload dX9_orbits_98 rfl ?_
        refine xr_ialdv p dX9_orbits_100 lay_98 rfl (by omega) (by decide) (c3 p hpl) ?_
        refine xr_aload0 dX9_orbits_101 rfl ?_
        refine xr_getR dX9_orbits_102 fk_9_75 lay_77 rfl ?_
        refine xr_aload0 dX9_orbits_105 rfl ?_
        refine xr_getR dX9_orbits_106 fk_9_69 lay_77 rfl ?_
        refine xr_sip si_256 dX9_orbits_109 ?_
        refine xr_iload3 dX9_orbits_112 rfl ?_
        refine xr_imul dX9_orbits_113 ?_
        refine xr_iload dX9_orbits_114 rfl ?_
        show xT _ _ _ 116 _ _ _ _
        refine xr_iadd dX9_orbits_116 ?_
        refine xr_ialdv _ dX9_orbits_117 lay_96 (by (try simp only [k_0, k_1, k_2, k_3, k_4, k_5, k_8, k_16, k_34, k_40, k_200, k_201, k_256, k_512, nI_add, pk_mul]); first | done | rfl) (by omega) (by decide) v96 ?_
        refine xr_ialdv q dX9_orbits_118 lay_98 rfl (by omega) (by decide) (c3 q hql) ?_
        refine xr_min dX9_orbits_119 ml_9_247 (by decide) (Nat.le_of_ble_eq_true rfl) ?_
        rw [hmin]
        refine xr_istore dX9_orbits_122 (Nat.le_of_ble_eq_true rfl) ?_
        show xT _ _ _ 124 [_, _, _, _, _, _] _ _ _
        refine xr_iload2 dX9_orbits_124 rfl ?_
        refine xr_if_ne 163 dX9_orbits_125 (by decide) (fun hbb => ?_) (fun hbb => ?_)
        · have hbb : b = true := by
            cases b with
            | true => rfl
            | false => exact absurd rfl hbb
          refine xr_ic1 dX9_orbits_163 ?_
          refine xr_goto 168 dX9_orbits_164 (by decide) ?_
          exact J168 true ⟨fun _ => Or.inl hbb, fun _ => rfl⟩
        have hbb : b = false := b2_0.mp hbb
        refine xr_aload0 dX9_orbits_128 rfl ?_
        refine xr_getR dX9_orbits_129 fk_9_75 lay_77 rfl ?_
        refine xr_iload dX9_orbits_132 rfl ?_
        refine xr_ialdv p dX9_orbits_134 lay_98 rfl (by omega) (by decide) (c3 p hpl) ?_
        refine xr_iload dX9_orbits_135 rfl ?_
        refine xr_icmp_ne 163 dX9_orbits_137 (by decide) (fun h1 => ?_) (fun h1 => ?_)
        · have h1 : c p ≠ c q := fun e => h1 (by rw [e, Nat.min_self])
          refine xr_ic1 dX9_orbits_163 ?_
          refine xr_goto 168 dX9_orbits_164 (by decide) ?_
          exact J168 true ⟨fun _ => Or.inr h1, fun _ => rfl⟩
        have h1 : c p = min (c p) (c q) := (nI_eq (by omega) (by omega)).mp h1
        refine xr_aload0 dX9_orbits_140 rfl ?_
        refine xr_getR dX9_orbits_141 fk_9_75 lay_77 rfl ?_
        refine xr_aload0 dX9_orbits_144 rfl ?_
        refine xr_getR dX9_orbits_145 fk_9_69 lay_77 rfl ?_
        refine xr_sip si_256 dX9_orbits_148 ?_
        refine xr_iload3 dX9_orbits_151 rfl ?_
        refine xr_imul dX9_orbits_152 ?_
        refine xr_iload dX9_orbits_153 rfl ?_
        show xT _ _ _ 155 _ _ _ _
        refine xr_iadd dX9_orbits_155 ?_
        refine xr_ialdv _ dX9_orbits_156 lay_96 (by (try simp only [k_0, k_1, k_2, k_3, k_4, k_5, k_8, k_16, k_34, k_40, k_200, k_201, k_256, k_512, nI_add, pk_mul]); first | done | rfl) (by omega) (by decide) v96 ?_
        refine xr_ialdv q dX9_orbits_157 lay_98 rfl (by omega) (by decide) (c3 q hql) ?_
        refine xr_iload dX9_orbits_158 rfl ?_
        refine xr_icmp_eq 167 dX9_orbits_160 (by decide) (fun h2 => ?_) (fun h2 => ?_)
        · have h2 : c q = min (c p) (c q) := (nI_eq (by omega) (by omega)).mp h2
          refine xr_ic0 dX9_orbits_167 ?_
          refine J168 false ⟨(fun q => by cases q), fun q => ?_⟩
          rcases q with q | q
          · rw [hbb] at q; exact q
          · exact absurd (h1.trans h2.symm) q
        · have h2 : c p ≠ c q := fun e => h2 (by rw [e, Nat.min_self])
          refine xr_ic1 dX9_orbits_163 ?_
          refine xr_goto 168 dX9_orbits_164 (by decide) ?_
          exact J168 true ⟨fun _ => Or.inr h2, fun _ => rfl⟩
      refine xr_ic0 dX9_orbits_69 ?_
      refine xr_istore dX9_orbits_70 (Nat.le_of_ble_eq_true rfl) ?_
      show xT _ _ _ 72 [_, _, _, _, _, _] _ _ _
      exact L1 0 (Nat.zero_le _) c b I2 _ lc bt (fun q => ⟨(bf q).1, (bf q).2, fun p' hp' => absurd hp' (Nat.not_lt_zero _)⟩) f2 c2
    refine xr_ic0 dX9_orbits_57 ?_
    refine xr_istore2 dX9_orbits_58 (Nat.le_of_ble_eq_true rfl) ?_
    show xT _ _ _ 59 [_, _, _, _, _, _] _ _ _
    refine xr_ic0 dX9_orbits_59 ?_
    refine xr_istore3 dX9_orbits_60 (Nat.le_of_ble_eq_true rfl) ?_
    show xT _ _ _ 61 [_, _, _, _, _, _] _ _ _
    exact L2 0 (Nat.zero_le _) c0 false I1 _ _ lc0 (fun q => by cases q) (fun _ => ⟨fun p hp => rfl, fun t' _ ht' => absurd ht' (Nat.not_lt_zero _)⟩) f1 c1
  have L0 : ∀ p, p ≤ N → ∀ I1 (z3 z4 z5 : Option Value), mfx [85, 98] [] I0 I1 → (∀ p', p' < p → I1 98 p' = nI p') → xT G M_X9_orbits (xMQ G (xpi fun v I' J' => v = sp_orbits S (nI n') ∧ mIv I' S ∧ mfr I J I' J')) 30 [some (.ref (G.1 77)), some (.int (nI n')), some (.int (nI p)), z3, z4, z5] [] I1 J := by
    refine x_for (fun p hp IH I1 z3 z4 z5 f1 c1 => ?_)
    refine xr_iload2 dX9_orbits_30 rfl ?_
    refine xr_aload0 dX9_orbits_31 rfl ?_
    refine xr_getIv dX9_orbits_32 fk_9_226 lay_77 rfl (h28 f1) ?_
    refine xr_icmp_ge 51 dX9_orbits_35 (by decide) (fun hc => ?_) (fun hc => ?_)
    · have : p = N := by have := nle hc; omega
      subst this
      refine xr_ic1 dX9_orbits_51 ?_
      refine xr_istore2 dX9_orbits_52 (Nat.le_of_ble_eq_true rfl) ?_
      show xT _ _ _ 53 [_, _, _, _, _, _] _ _ _
      exact L3 _ (fun p => p) (fun p _ => ⟨Nat.le_refl _, conn.rf⟩) rfl true (fun q => by cases q) I1 _ _ _ f1 c1
    have hpl := nlt hc
    refine xr_aload0 dX9_orbits_38 rfl ?_
    refine xr_getR dX9_orbits_39 fk_9_75 lay_77 rfl ?_
    refine xr_iload2 dX9_orbits_42 rfl ?_
    refine xr_iload2 dX9_orbits_43 rfl ?_
    refine xr_iast p dX9_orbits_44 lay_98 rfl (by omega) (by decide) ?_
    refine xr_iinc dX9_orbits_45 rfl ii_1 (Nat.le_of_ble_eq_true rfl) ?_
    show xT _ _ _ 48 [_, _, _, _, _, _] _ _ _
    refine xr_goto 30 dX9_orbits_48 (by decide) ?_
    rw [k_1, nI_add]
    refine IH hpl _ _ _ _ (f1.up _ (by decide) (by decide)) (fun p' hp' => ?_)
    rw [up_same]
    by_cases e : p' = p
    · rw [e, upd_same]
    · rw [upd_ne _ _ e]; exact c1 p' (by omega)
  refine xr_ic0 dX9_orbits_28 ?_
  refine xr_istore2 dX9_orbits_29 (Nat.le_of_ble_eq_true rfl) ?_
  show xT _ _ _ 30 [_, _, _, _, _, _] _ _ _
  exact L0 0 (Nat.zero_le _) I0 _ _ _ mfx.rf (fun p' hp' => absurd hp' (Nat.not_lt_zero _))
end M35
