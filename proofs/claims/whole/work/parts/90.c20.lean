section C20
variable {G : xG} {I : xI} {J : xJ}
theorem apN_some {M : xMac} {a b : List Nat} {m : Nat} : ∀ f k, k ≤ m → m ≤ k + f → (∀ j, k ≤ j → j < m → wEqn M j a b) → ¬ wEqn M m a b → apN M a b f k = some m
  | 0, k, h1, h2, _, h4 => by
    have : k = m := by omega
    subst this
    unfold apN
    rw [if_neg (fun q => h4 (wE_iff.mp q))]
  | f + 1, k, h1, h2, h3, h4 => by
    unfold apN
    rcases Nat.lt_or_ge k m with q | q
    · rw [if_pos (wE_iff.mpr (h3 k (Nat.le_refl _) q))]
      exact apN_some f (k + 1) (by omega) (by omega) (fun j hj => h3 j (by omega)) h4
    · have : k = m := by omega
      subst this
      rw [if_neg (fun q => h4 (wE_iff.mp q))]
theorem apN_none {M : xMac} {a b : List Nat} : ∀ f k, (∀ j, j ≤ k + f → wEqn M j a b) → apN M a b f k = none
  | 0, k, h => by
    unfold apN
    rw [if_pos (wE_iff.mpr (h k (by omega)))]
  | f + 1, k, h => by
    unfold apN
    rw [if_pos (wE_iff.mpr (h k (by omega)))]
    exact apN_none f (k + 1) (fun j hj => h j (by omega))
theorem wEqn.le {M : xMac} {a b : List Nat} {m n : Nat} (h : m ≤ n) (he : wEqn M n a b) : wEqn M m a b := by
  induction h with
  | refl => exact he
  | step _ ih => exact ih he.pred
theorem apX_is {M : xMac} {n x : Nat} {a b : List Nat} (hx : x < mK M) (h1 : ¬ (wout M a x = wout M b x ∧ wEqn M n (wpart M a x) (wpart M b x))) (h2 : ∀ y, y < x → wout M a y = wout M b y ∧ wEqn M n (wpart M a y) (wpart M b y)) : apX M n a b = x := by
  unfold apX
  rw [find_first hx ?_ (fun k hk => ?_)]
  · rfl
  · simp only [Bool.not_eq_true', Bool.and_eq_false_iff]
    by_cases q : wout M a x = wout M b x
    · right
      cases hq : wE M n (wpart M a x) (wpart M b x) with
      | false => rfl
      | true => exact absurd ⟨q, wE_iff.mp hq⟩ h1
    · left; exact beq_eq_false_iff_ne.mpr q
  · obtain ⟨u1, u2⟩ := h2 k hk
    simp [u1, wE_iff.mpr u2]
theorem wrt_dig {M : xMac} (hM : mOk M) (hwh : mWhole M) {a : List Nat} (ha : wOk M a) : ∀ n, n ≤ mK M → ∀ x, x < n → wrt M a n / 4 ^ x % 4 = wout M a x
  | 0, _, x, hx => absurd hx (Nat.not_lt_zero _)
  | n + 1, hn, x, hx => by
    have h1 := wrt_lt hM hwh ha n (by omega)
    have h4 := hM.2.1
    show (wrt M a n + wout M a n * 4 ^ n) / 4 ^ x % 4 = _
    rcases Nat.lt_or_ge x n with q | q
    · have IH := wrt_dig hM hwh ha n (by omega) x q
      have e : wout M a n * 4 ^ n = wout M a n * 4 ^ (n - x - 1) * 4 * 4 ^ x := by
        rw [Nat.mul_assoc, Nat.mul_assoc]
        congr 1
        rw [show 4 * 4 ^ x = 4 ^ (x + 1) by rw [Nat.pow_succ, Nat.mul_comm], ← Nat.pow_add]
        congr 1
        omega
      rw [e, Nat.add_mul_div_right _ _ (Nat.pow_pos (by decide)), Nat.add_mul_mod_self_right]
      exact IH
    · have : x = n := by omega
      subst this
      have h2 := wout_lt hM hwh ha (x := x) (by omega)
      rw [Nat.add_mul_div_right _ _ (Nat.pow_pos (by decide)), Nat.div_eq_of_lt h1, Nat.zero_add]
      exact Nat.mod_eq_of_lt (by omega)
theorem nI_xor {a b : Nat} (ha : a < 2 ^ 32) (hb : b < 2 ^ 32) : nI a ^^^ nI b = nI (a ^^^ b) := by
  apply Int32.toBitVec_inj.mp
  apply BitVec.eq_of_toNat_eq
  rw [Int32.toBitVec_xor, BitVec.toNat_xor, nI_bv ha, nI_bv hb, nI_bv (Nat.xor_lt_two_pow ha hb)]
theorem xor_dig {a b x : Nat} : (a ^^^ b) / 4 ^ x % 4 = 0 ↔ a / 4 ^ x % 4 = b / 4 ^ x % 4 := by
  have e : (a ^^^ b) / 4 ^ x % 4 = (a / 4 ^ x % 4) ^^^ (b / 4 ^ x % 4) := by
    rw [← pow24, ← Nat.shiftRight_eq_div_pow, ← Nat.shiftRight_eq_div_pow, ← Nat.shiftRight_eq_div_pow, Nat.shiftRight_xor_distrib]
    exact Nat.xor_mod_two_pow (n := 2)
  rw [e]
  constructor
  · intro h
    have := congrArg (fun z => z ^^^ (b / 4 ^ x % 4)) h
    simp only [Nat.xor_assoc, Nat.xor_self, Nat.xor_zero, Nat.zero_xor] at this
    exact this
  · intro h; rw [h, Nat.xor_self]
theorem c4_areAlike {p : Nat} (hp : isPl p) {m : Nat} {f : Nat → Nat} (hm : m ≤ 200) (h : ∀ k, k < m → I (p + 11) k = nI (f k)) (hf : ∀ k, k < m → f k < 2 ^ 31) {a b : Nat} (ha : a < m) (hb : b < m) : xCon G M_X4_areAlike [.ref (G.1 p), .int (nI a), .int (nI b)] I J (xpi fun v I' J' => v = b2 (decide (f a = f b)) ∧ I = I' ∧ J = J') := by
  have va := h a ha
  have vb := h b hb
  refine x_ent (by decide) (Nat.le_of_ble_eq_true rfl) rfl ?_
  show xT _ _ _ 0 [_, _, _] _ _ _
  refine xr_aload0 dX4_areAlike_0 rfl ?_
  refine xr_getR dX4_areAlike_1 fk_4_30 hp.1 rfl ?_
  refine xr_iload1 dX4_areAlike_4 rfl ?_
  refine xr_ialdv a dX4_areAlike_5 hp.2.2.2.2.2.1 rfl (by omega) (by first | decide | omega) va ?_
  refine xr_aload0 dX4_areAlike_6 rfl ?_
  refine xr_getR dX4_areAlike_7 fk_4_30 hp.1 rfl ?_
  refine xr_iload2 dX4_areAlike_10 rfl ?_
  refine xr_ialdv b dX4_areAlike_11 hp.2.2.2.2.2.1 rfl (by omega) (by first | decide | omega) vb ?_
  show xT _ _ _ 12 _ _ _ _
  refine xr_icmp_ne 19 dX4_areAlike_12 (by decide) (fun hne => ?_) (fun hne => ?_)
  · skip
    refine xr_ic0 dX4_areAlike_19 ?_
    refine xr_zret dX4_areAlike_20 rfl rfl (by simp) ⟨b2_N (fun q => hne (by rw [q])), rfl, rfl⟩
  · skip
    refine xr_ic1 dX4_areAlike_15 ?_
    refine xr_goto 20 dX4_areAlike_16 (by decide) ?_
    refine xr_zret dX4_areAlike_20 rfl rfl (by simp) ⟨b2_P ((nI_eq (hf a ha) (hf b hb)).mp hne), rfl, rfl⟩
theorem c4_arePartedBy {M : xMac} {p : Nat} (hp : isPl p) {hs : List (List Nat)} (hl : hs.length ≤ 200) {r n : Nat} (hr : r < 14) {c : Nat → Nat} (hc : isCls M hs n (fun h => I (p + 13) (200 * r + h)) c hs.length) {a b : Nat} (ha : a < hs.length) (hb : b < hs.length) : xCon G M_X4_arePartedBy [.ref (G.1 p), .int (nI r), .int (nI a), .int (nI b)] I J (xpi fun v I' J' => v = b2 (!wE M n (hs.getD a []) (hs.getD b [])) ∧ I = I' ∧ J = J') := by
  obtain ⟨va, la⟩ := hc.1 a ha
  obtain ⟨vb, lb⟩ := hc.1 b hb
  have hcl := cnt_le (wFst M hs n) hs.length
  have hcc := hc.2 a b ha hb
  refine x_ent (by decide) (Nat.le_of_ble_eq_true rfl) rfl ?_
  show xT _ _ _ 0 [_, _, _, _] _ _ _
  refine xr_aload0 dX4_arePartedBy_0 rfl ?_
  refine xr_getR dX4_arePartedBy_1 fk_4_36 hp.1 rfl ?_
  refine xr_iload1 dX4_arePartedBy_4 rfl ?_
  refine xr_sip si_200 dX4_arePartedBy_5 ?_
  refine xr_imul dX4_arePartedBy_8 ?_
  refine xr_iload2 dX4_arePartedBy_9 rfl ?_
  refine xr_iadd dX4_arePartedBy_10 ?_
  rw [show (200 : Int32) = nI 200 from rfl, pk_mul, nI_add, Nat.mul_comm]
  refine xr_ialdv (200 * r + a) dX4_arePartedBy_11 hp.2.2.2.2.2.2.2.1 rfl (by omega) (by first | decide | omega) va ?_
  refine xr_aload0 dX4_arePartedBy_12 rfl ?_
  refine xr_getR dX4_arePartedBy_13 fk_4_36 hp.1 rfl ?_
  refine xr_iload1 dX4_arePartedBy_16 rfl ?_
  refine xr_sip si_200 dX4_arePartedBy_17 ?_
  refine xr_imul dX4_arePartedBy_20 ?_
  refine xr_iload3 dX4_arePartedBy_21 rfl ?_
  refine xr_iadd dX4_arePartedBy_22 ?_
  show xT _ _ _ 23 _ _ _ _
  rw [show (200 : Int32) = nI 200 from rfl, pk_mul, nI_add, Nat.mul_comm]
  refine xr_ialdv (200 * r + b) dX4_arePartedBy_23 hp.2.2.2.2.2.2.2.1 rfl (by omega) (by first | decide | omega) vb ?_
  refine xr_icmp_eq 31 dX4_arePartedBy_24 (by decide) (fun he => ?_) (fun he => ?_)
  · have he : c a = c b := (nI_eq (by omega) (by omega)).mp he
    refine xr_ic0 dX4_arePartedBy_31 ?_
    refine xr_zret dX4_arePartedBy_32 rfl rfl (by simp) ⟨by rw [wE_iff.mpr (hcc.mp he)]; rfl, rfl, rfl⟩
  · have he : ¬ c a = c b := fun q => he (by rw [q])
    have : wE M n (hs.getD a []) (hs.getD b []) = false := by
      cases hq : wE M n (hs.getD a []) (hs.getD b []) with
      | false => rfl
      | true => exact absurd (hcc.mpr (wE_iff.mp hq)) he
    refine xr_ic1 dX4_arePartedBy_27 ?_
    refine xr_goto 32 dX4_arePartedBy_28 (by decide) ?_
    refine xr_zret dX4_arePartedBy_32 rfl rfl (by simp) ⟨by rw [this]; rfl, rfl, rfl⟩
theorem c4_firstPartingLetter {M : xMac} (hK4 : mK M ≤ 4) {p : Nat} (hp : isPl p) {hs : List (List Nat)} (hl : hs.length ≤ 200) (h8 : I p 8 = nI (mK M)) (hf : pFl I M p hs) {r n : Nat} (hr : r < 14) {c : Nat → Nat} (hc : isCls M hs n (fun h => I (p + 13) (200 * r + h)) c hs.length) {a b : Nat} (ha : a < hs.length) (hb : b < hs.length) (hex : ∃ x, x < mK M ∧ ¬ wEqn M n (wpart M (hs.getD a []) x) (wpart M (hs.getD b []) x)) : xCon G M_X4_firstPartingLetter [.ref (G.1 p), .int (nI r), .int (nI a), .int (nI b)] I J (xpi fun v I' J' => (∃ x, v = nI x ∧ x < mK M ∧ ¬ wEqn M n (wpart M (hs.getD a []) x) (wpart M (hs.getD b []) x) ∧ ∀ y, y < x → wEqn M n (wpart M (hs.getD a []) y) (wpart M (hs.getD b []) y)) ∧ I = I' ∧ J = J') := by
  have L : ∀ x, x ≤ mK M → (∀ y, y < x → wEqn M n (wpart M (hs.getD a []) y) (wpart M (hs.getD b []) y)) → xT G M_X4_firstPartingLetter (xMQ G (xpi fun v I' J' => (∃ x, v = nI x ∧ x < mK M ∧ ¬ wEqn M n (wpart M (hs.getD a []) x) (wpart M (hs.getD b []) x) ∧ ∀ y, y < x → wEqn M n (wpart M (hs.getD a []) y) (wpart M (hs.getD b []) y)) ∧ I = I' ∧ J = J')) 3 [some (.ref (G.1 p)), some (.int (nI r)), some (.int (nI a)), some (.int (nI b)), some (.int (nI x))] [] I J := by
    refine x_for (fun x hx IH ok => ?_)
    refine xr_iload dX4_firstPartingLetter_3 rfl ?_
    refine xr_aload0 dX4_firstPartingLetter_5 rfl ?_
    refine xr_getIv dX4_firstPartingLetter_6 fk_4_46 hp.1 rfl h8 ?_
    refine xr_icmp_ge 51 dX4_firstPartingLetter_9 (by decide) (fun hcx => ?_) (fun hcx => ?_)
    · have : x = mK M := by have := nle hcx; omega
      subst this
      obtain ⟨y, hy, hq⟩ := hex
      exact absurd (ok y hy) hq
    have hxl := nlt hcx
    obtain ⟨a1, a2, a3⟩ := hf.pj hl ha hxl
    obtain ⟨b1, b2', b3⟩ := hf.pj hl hb hxl
    refine xr_aload0 dX4_firstPartingLetter_12 rfl ?_
    refine xr_iload1 dX4_firstPartingLetter_13 rfl ?_
    refine xr_aload0 dX4_firstPartingLetter_14 rfl ?_
    refine xr_getR dX4_firstPartingLetter_15 fk_4_23 hp.1 rfl ?_
    refine xr_iload2 dX4_firstPartingLetter_18 rfl ?_
    refine xr_ic4 dX4_firstPartingLetter_19 ?_
    refine xr_imul dX4_firstPartingLetter_20 ?_
    refine xr_iload dX4_firstPartingLetter_21 rfl ?_
    show xT _ _ _ 23 _ _ _ _
    refine xr_iadd dX4_firstPartingLetter_23 ?_
    refine xr_ialdv (4 * a + x) dX4_firstPartingLetter_24 hp.2.2.2.1 (by rw [k_4, pk_mul, nI_add, Nat.mul_comm]) (by omega) (by first | decide | omega) a1 ?_
    refine xr_aload0 dX4_firstPartingLetter_25 rfl ?_
    refine xr_getR dX4_firstPartingLetter_26 fk_4_23 hp.1 rfl ?_
    refine xr_iload3 dX4_firstPartingLetter_29 rfl ?_
    refine xr_ic4 dX4_firstPartingLetter_30 ?_
    refine xr_imul dX4_firstPartingLetter_31 ?_
    refine xr_iload dX4_firstPartingLetter_32 rfl ?_
    show xT _ _ _ 34 _ _ _ _
    refine xr_iadd dX4_firstPartingLetter_34 ?_
    refine xr_ialdv (4 * b + x) dX4_firstPartingLetter_35 hp.2.2.2.1 (by rw [k_4, pk_mul, nI_add, Nat.mul_comm]) (by omega) (by first | decide | omega) b1 ?_
    refine xr_cVi [_, _, _] dX4_firstPartingLetter_36 (xcv_of cf_X4_arePartedBy ml_4_116 (by decide)) rfl hp.1 rfl rfl rfl (Nat.le_of_ble_eq_true rfl) (c4_arePartedBy hp hl hr hc a2 b2') (fun v I1 J1 hc1 => ?_)
    obtain ⟨rfl, rfl, rfl⟩ := hc1
    rw [a3, b3]
    refine xr_if_eq 45 dX4_firstPartingLetter_39 (by decide) (fun hz => ?_) (fun hz => ?_)
    · have hz : wE M n (wpart M (hs.getD a []) x) (wpart M (hs.getD b []) x) = true := by
        have := b2_0.mp hz
        simpa using this
      refine xr_iinc dX4_firstPartingLetter_45 rfl ii_1 (Nat.le_of_ble_eq_true rfl) ?_
      show xT _ _ _ 48 [_, _, _, _, _] _ _ _
      refine xr_goto 3 dX4_firstPartingLetter_48 (by decide) ?_
      rw [k_1, nI_add]
      refine IH hxl (fun y hy => ?_)
      rcases Nat.lt_or_ge y x with q | q
      · exact ok y q
      · have : y = x := by omega
        rw [this]; exact wE_iff.mp hz
    · have hz : ¬ wEqn M n (wpart M (hs.getD a []) x) (wpart M (hs.getD b []) x) := fun q => by
        rw [wE_iff.mpr q] at hz
        exact hz rfl
      refine xr_iload dX4_firstPartingLetter_42 rfl ?_
      refine xr_iret dX4_firstPartingLetter_44 rfl rfl ⟨⟨x, rfl, hxl, hz, ok⟩, rfl, rfl⟩
  refine x_ent (by decide) (Nat.le_of_ble_eq_true rfl) rfl ?_
  show xT _ _ _ 0 [_, _, _, _, _] _ _ _
  refine xr_ic0 dX4_firstPartingLetter_0 ?_
  refine xr_istore dX4_firstPartingLetter_1 (Nat.le_of_ble_eq_true rfl) ?_
  show xT _ _ _ 3 [_, _, _, _, _] _ _ _
  exact L 0 (Nat.zero_le _) (fun y hy => absurd hy (Nat.not_lt_zero _))
theorem c4_firstUnlikeLetter {K : Nat} (hK4 : K ≤ 4) {p : Nat} (hp : isPl p) (h8 : I p 8 = nI K) {A B : Nat} (hA : A < 256) (hB : B < 256) (hex : ∃ x, x < K ∧ A / 4 ^ x % 4 ≠ B / 4 ^ x % 4) : xCon G M_X4_firstUnlikeLetter [.ref (G.1 p), .int (nI (A ^^^ B))] I J (xpi fun v I' J' => (∃ x, v = nI x ∧ x < K ∧ A / 4 ^ x % 4 ≠ B / 4 ^ x % 4 ∧ ∀ y, y < x → A / 4 ^ y % 4 = B / 4 ^ y % 4) ∧ I = I' ∧ J = J') := by
  have hAB : A ^^^ B < 256 := Nat.xor_lt_two_pow (n := 8) hA hB
  have L : ∀ x, x ≤ K → (∀ y, y < x → A / 4 ^ y % 4 = B / 4 ^ y % 4) → xT G M_X4_firstUnlikeLetter (xMQ G (xpi fun v I' J' => (∃ x, v = nI x ∧ x < K ∧ A / 4 ^ x % 4 ≠ B / 4 ^ x % 4 ∧ ∀ y, y < x → A / 4 ^ y % 4 = B / 4 ^ y % 4) ∧ I = I' ∧ J = J')) 2 [some (.ref (G.1 p)), some (.int (nI (A ^^^ B))), some (.int (nI x))] [] I J := by
    refine x_for (fun x hx IH ok => ?_)
    refine xr_iload2 dX4_firstUnlikeLetter_2 rfl ?_
    refine xr_aload0 dX4_firstUnlikeLetter_3 rfl ?_
    refine xr_getIv dX4_firstUnlikeLetter_4 fk_4_46 hp.1 rfl h8 ?_
    refine xr_icmp_ge 28 dX4_firstUnlikeLetter_7 (by decide) (fun hcx => ?_) (fun hcx => ?_)
    · have : x = K := by have := nle hcx; omega
      subst this
      obtain ⟨y, hy, hq⟩ := hex
      exact absurd (ok y hy) hq
    have hxl := nlt hcx
    have hdl : (A ^^^ B) / 4 ^ x ≤ A ^^^ B := Nat.div_le_self _ _
    refine xr_iload1 dX4_firstUnlikeLetter_10 rfl ?_
    refine xr_ic2 dX4_firstUnlikeLetter_11 ?_
    refine xr_iload2 dX4_firstUnlikeLetter_12 rfl ?_
    refine xr_imul dX4_firstUnlikeLetter_13 ?_
    refine xr_ishr dX4_firstUnlikeLetter_14 ?_
    refine xr_ic3 dX4_firstUnlikeLetter_15 ?_
    refine xr_iand dX4_firstUnlikeLetter_16 ?_
    rw [k_2, shr_row (by omega) (by omega), and3 (by omega)]
    refine xr_if_eq 22 dX4_firstUnlikeLetter_17 (by decide) (fun hz => ?_) (fun hz => ?_)
    · have hz : (A ^^^ B) / 4 ^ x % 4 = 0 := (nI_eq (b := 0) (by omega) (by decide)).mp hz
      refine xr_iinc dX4_firstUnlikeLetter_22 rfl ii_1 (Nat.le_of_ble_eq_true rfl) ?_
      show xT _ _ _ 25 [_, _, _] _ _ _
      refine xr_goto 2 dX4_firstUnlikeLetter_25 (by decide) ?_
      rw [k_1, nI_add]
      refine IH hxl (fun y hy => ?_)
      rcases Nat.lt_or_ge y x with q | q
      · exact ok y q
      · have : y = x := by omega
        rw [this]; exact xor_dig.mp hz
    · have hz : ¬ (A ^^^ B) / 4 ^ x % 4 = 0 := fun q => hz (by rw [q]; rfl)
      refine xr_iload2 dX4_firstUnlikeLetter_20 rfl ?_
      refine xr_iret dX4_firstUnlikeLetter_21 rfl rfl ⟨⟨x, rfl, hxl, fun q => hz (xor_dig.mpr q), ok⟩, rfl, rfl⟩
  refine x_ent (by decide) (Nat.le_of_ble_eq_true rfl) rfl ?_
  show xT _ _ _ 0 [_, _, _] _ _ _
  refine xr_ic0 dX4_firstUnlikeLetter_0 ?_
  refine xr_istore2 dX4_firstUnlikeLetter_1 (Nat.le_of_ble_eq_true rfl) ?_
  show xT _ _ _ 2 [_, _, _] _ _ _
  exact L 0 (Nat.zero_le _) (fun y hy => absurd hy (Nat.not_lt_zero _))
end C20
