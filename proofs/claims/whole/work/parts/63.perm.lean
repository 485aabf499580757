-- permutations of the numbers below N, their rounds, and how often until all rest
def isPm (f : Nat → Nat) (N : Nat) : Prop := (∀ p, p < N → f p < N) ∧ ∀ p q, p < N → q < N → f p = f q → p = q
def itr (f : Nat → Nat) : Nat → Nat → Nat
  | 0, p => p
  | k + 1, p => itr f k (f p)
theorem itr_succ (f : Nat → Nat) : ∀ k p, itr f (k + 1) p = f (itr f k p)
  | 0, _ => rfl
  | k + 1, p => itr_succ f k (f p)
theorem itr_add (f : Nat → Nat) (a : Nat) : ∀ b p, itr f (a + b) p = itr f a (itr f b p)
  | 0, _ => rfl
  | b + 1, p => itr_add f a b (f p)
theorem isPm.lt {f : Nat → Nat} {N : Nat} (h : isPm f N) {p : Nat} (hp : p < N) : ∀ k, itr f k p < N
  | 0 => hp
  | k + 1 => by rw [itr_succ]; exact h.1 _ (h.lt hp k)
theorem isPm.inj {f : Nat → Nat} {N : Nat} (h : isPm f N) {p q : Nat} (hp : p < N) (hq : q < N) : ∀ k, itr f k p = itr f k q → p = q
  | 0, e => e
  | k + 1, e => by rw [itr_succ, itr_succ] at e; exact h.inj hp hq k (h.2 _ _ (h.lt hp k) (h.lt hq k) e)
theorem not_inj {N : Nat} {g : Nat → Nat} (hg : ∀ i, i ≤ N → g i < N) : ∃ i j, i < j ∧ j ≤ N ∧ g i = g j := by
  refine Classical.byContradiction (fun hn => ?_)
  have h1 : ((List.range (N + 1)).map g).Nodup := by
    refine List.pairwise_map.mpr (List.Pairwise.imp_of_mem (R := fun a b => a < b) (fun {a b} ha hb hab e => hn ⟨a, b, hab, ?_, e⟩) List.pairwise_lt_range)
    have := List.mem_range.mp hb; omega
  have h2 := nodup_len (b := List.range N) h1 (fun w hw => by
    obtain ⟨i, hi, rfl⟩ := List.mem_map.mp hw
    exact List.mem_range.mpr (hg i (by have := List.mem_range.mp hi; omega)))
  simp at h2
  omega
theorem isPm.back {f : Nat → Nat} {N : Nat} (h : isPm f N) {p : Nat} (hp : p < N) : ∃ k, k < N ∧ itr f (k + 1) p = p := by
  obtain ⟨i, j, hij, hj, e⟩ := not_inj (N := N) (g := fun i => itr f i p) (fun i _ => h.lt hp i)
  refine ⟨j - i - 1, by omega, ?_⟩
  have e : itr f i p = itr f j p := e
  have e2 : j = i + (j - i - 1 + 1) := by omega
  rw [e2, itr_add] at e
  exact (h.inj hp (h.lt hp _) i e).symm
def cyc (f : Nat → Nat) (N p : Nat) : Nat := ((List.range N).find? (fun k => itr f (k + 1) p == p)).getD 0 + 1
theorem cyc_spec {f : Nat → Nat} {N : Nat} (h : isPm f N) {p : Nat} (hp : p < N) : 1 ≤ cyc f N p ∧ cyc f N p ≤ N ∧ itr f (cyc f N p) p = p ∧ ∀ k, 0 < k → k < cyc f N p → itr f k p ≠ p := by
  unfold cyc
  cases hf : (List.range N).find? (fun k => itr f (k + 1) p == p) with
  | none =>
    obtain ⟨k, hk, e⟩ := h.back hp
    have := List.find?_eq_none.mp hf k (List.mem_range.mpr hk)
    simp [e] at this
  | some k =>
    have h1 := List.find?_some hf
    have h2 := List.mem_range.mp (List.mem_of_find?_eq_some hf)
    refine ⟨by simp, by simp; omega, by simpa using h1, fun j hj hj2 e => ?_⟩
    simp at hj2
    obtain ⟨_, as, bs, e3, h4⟩ := List.find?_eq_some_iff_append.mp hf
    have h5 : as.length = k := by
      have hl : k < (List.range N).length := by simp; exact h2
      have h6 : (List.range N)[as.length]? = some k := by rw [e3]; simp
      have h7 : as.length < N := by
        have := congrArg List.length e3
        simp at this
        omega
      rw [List.getElem?_range h7] at h6
      exact Option.some.inj h6
    have h6 : j - 1 ∈ as := by
      have h7 : (List.range N)[j - 1]? = some (j - 1) := List.getElem?_range (by omega)
      rw [e3, List.getElem?_append_left (by omega)] at h7
      exact List.mem_of_getElem? h7
    have := h4 _ h6
    rw [show j - 1 + 1 = j by omega, e] at this
    simp at this
theorem cyc_eq {f : Nat → Nat} {N : Nat} (h : isPm f N) {p c : Nat} (hp : p < N) (h0 : 0 < c) (hc : itr f c p = p) (hk : ∀ k, 0 < k → k < c → itr f k p ≠ p) : cyc f N p = c := by
  obtain ⟨a1, a2, a3, a4⟩ := cyc_spec h hp
  rcases Nat.lt_trichotomy (cyc f N p) c with q | q | q
  · exact absurd a3 (hk _ a1 q)
  · exact q
  · exact absurd hc (a4 _ h0 q)
def ordL (f : Nat → Nat) (N : Nat) : Nat → Nat
  | 0 => 1
  | p + 1 => Nat.lcm (ordL f N p) (cyc f N p)
theorem cyc_pos (f : Nat → Nat) (N p : Nat) : 0 < cyc f N p := Nat.succ_pos _
theorem ordL_pos (f : Nat → Nat) (N : Nat) : ∀ p, 0 < ordL f N p
  | 0 => Nat.one_pos
  | p + 1 => Nat.lcm_pos (ordL_pos f N p) (cyc_pos f N p)
theorem ordL_dvd (f : Nat → Nat) (N : Nat) {p q : Nat} (h : p ≤ q) : ordL f N p ∣ ordL f N q := by
  induction h with
  | refl => exact Nat.dvd_refl _
  | step _ ih => exact Nat.dvd_trans ih (Nat.dvd_lcm_left _ _)
theorem ordL_le (f : Nat → Nat) (N : Nat) {p q : Nat} (h : p ≤ q) : ordL f N p ≤ ordL f N q := Nat.le_of_dvd (ordL_pos f N q) (ordL_dvd f N h)
theorem lcm_div (a b : Nat) : a / Nat.gcd a b * b = Nat.lcm a b := by
  rw [Nat.lcm, Nat.mul_comm, ← Nat.mul_div_assoc _ (Nat.gcd_dvd_left a b), Nat.mul_comm]
-- numbers below 16, four bits each
def p4 : List Nat → Nat
  | [] => 0
  | x :: l => x + 16 * p4 l
theorem p4_snoc : ∀ (l : List Nat) (x : Nat), p4 (l ++ [x]) = p4 l + 16 ^ l.length * x
  | [], x => by simp [p4]
  | y :: l, x => by
    have := p4_snoc l x
    simp only [List.cons_append, p4, this, List.length_cons, Nat.pow_succ]
    rw [Nat.mul_add, ← Nat.mul_assoc, Nat.mul_comm 16 (16 ^ l.length)]
    omega
def d16 (l : List Nat) : Prop := ∀ x ∈ l, x < 16
theorem p4_lt : ∀ {l : List Nat}, d16 l → p4 l < 16 ^ l.length
  | [], _ => by simp [p4]
  | y :: l, h => by
    have h1 := p4_lt (l := l) (fun x hx => h x (List.mem_cons_of_mem _ hx))
    have h2 := h y List.mem_cons_self
    simp only [p4, List.length_cons, Nat.pow_succ]
    omega
theorem p4_get : ∀ {l : List Nat} (_ : d16 l) (i : Nat) (hi : i < l.length), p4 l / 16 ^ i % 16 = l[i]
  | y :: l, h, 0, _ => by
    have h2 := h y List.mem_cons_self
    simp only [p4, Nat.pow_zero, Nat.div_one, List.getElem_cons_zero]
    omega
  | y :: l, h, i + 1, hi => by
    have h2 := h y List.mem_cons_self
    have h1 := p4_get (l := l) (fun x hx => h x (List.mem_cons_of_mem _ hx)) i (by simpa using hi)
    simp only [p4, List.getElem_cons_succ]
    rw [Nat.pow_succ, Nat.mul_comm (16 ^ i) 16, ← Nat.div_div_eq_div_mul, show (y + 16 * p4 l) / 16 = p4 l by omega]
    exact h1
theorem p4_inj : ∀ {a b : List Nat}, d16 a → d16 b → a.length = b.length → p4 a = p4 b → a = b
  | [], [], _, _, _, _ => rfl
  | [], _ :: _, _, _, h, _ => by simp at h
  | _ :: _, [], _, _, h, _ => by simp at h
  | x :: a, y :: b, ha, hb, hl, h => by
    have h2 := ha x List.mem_cons_self
    have h3 := hb y List.mem_cons_self
    simp only [p4] at h
    have e1 : x = y := by omega
    have e2 : p4 a = p4 b := by omega
    rw [e1, p4_inj (fun x hx => ha x (List.mem_cons_of_mem _ hx)) (fun x hx => hb x (List.mem_cons_of_mem _ hx)) (by simpa using hl) e2]
theorem p4_mod : ∀ {l : List Nat} (_ : d16 l) (i : Nat), p4 l % 16 ^ i = p4 (l.take i)
  | [], _, i => by simp [p4]
  | y :: l, h, 0 => by simp [p4, Nat.mod_one]
  | y :: l, h, i + 1 => by
    have h2 := h y List.mem_cons_self
    have h1 := p4_mod (l := l) (fun x hx => h x (List.mem_cons_of_mem _ hx)) i
    simp only [p4, List.take_succ_cons, ← h1]
    rw [Nat.pow_succ, Nat.mul_comm (16 ^ i) 16, Nat.mod_mul, show (y + 16 * p4 l) / 16 = p4 l by omega]
    omega
-- open addressing: T s = 0 says that slot s is free, T s = k + 1 that it holds key k
def hOk {κ : Type} (T : Nat → Nat) (sz : Nat) (h : κ → Nat) (ks : List κ) : Prop :=
  ks.Nodup ∧ (∀ s, s < sz → T s ≤ ks.length) ∧ (∀ s s', s < sz → s' < sz → T s = T s' → T s ≠ 0 → s = s') ∧ ∀ k (hk : k < ks.length), ∃ j, j < sz ∧ T ((h ks[k] + j) % sz) = k + 1 ∧ ∀ i, i < j → T ((h ks[k] + i) % sz) ≠ 0
theorem hOk.nil {κ : Type} {T : Nat → Nat} {sz : Nat} {h : κ → Nat} (h0 : ∀ s, s < sz → T s = 0) : hOk T sz h ([] : List κ) :=
  ⟨List.nodup_nil, fun s hs => by rw [h0 s hs]; exact Nat.zero_le _, fun s s' hs _ _ q => absurd (h0 s hs) q, fun k hk => absurd hk (Nat.not_lt_zero _)⟩
theorem hOk.free {κ : Type} {T : Nat → Nat} {sz : Nat} {h : κ → Nat} {ks : List κ} (H : hOk T sz h ks) (hl : ks.length < sz) (a : Nat) : ∃ j, j < sz ∧ T ((a + j) % sz) = 0 := by
  have hs : ∃ s, s < sz ∧ T s = 0 := by
    refine Classical.byContradiction (fun hn => ?_)
    have hz : ∀ s, s < sz → T s ≠ 0 := fun s hs q => hn ⟨s, hs, q⟩
    obtain ⟨i, j, hij, hj, e⟩ := not_inj (N := ks.length) (g := fun i => T i - 1) (fun i hi => by
      have := H.2.1 i (by omega)
      have := hz i (by omega)
      show T i - 1 < _
      omega)
    have e : T i - 1 = T j - 1 := e
    have h1 := hz i (by omega)
    have h2 := hz j (by omega)
    have := H.2.2.1 i j (by omega) (by omega) (by omega) h1
    omega
  obtain ⟨s, hs, h0⟩ := hs
  have hm := Nat.mod_lt a (show sz > 0 by omega)
  have hd := Nat.div_add_mod a sz
  by_cases q : a % sz ≤ s
  · refine ⟨s - a % sz, by omega, ?_⟩
    have : (a + (s - a % sz)) % sz = s := by
      rw [show a + (s - a % sz) = s + sz * (a / sz) by omega, Nat.add_mul_mod_self_left, Nat.mod_eq_of_lt hs]
    rw [this]; exact h0
  · refine ⟨s + sz - a % sz, by omega, ?_⟩
    have : (a + (s + sz - a % sz)) % sz = s := by
      rw [show a + (s + sz - a % sz) = s + sz + sz * (a / sz) by omega, Nat.add_mul_mod_self_left, Nat.add_mod_right, Nat.mod_eq_of_lt hs]
    rw [this]; exact h0
/-- a walk of j slots that has not met d -/
def hWalk {κ : Type} (T : Nat → Nat) (sz : Nat) (h : κ → Nat) (ks : List κ) (d : κ) (j : Nat) : Prop := ∀ i, i < j → ∃ k, T ((h d + i) % sz) = k + 1 ∧ ks[k]? ≠ some d
theorem hWalk.zero {κ : Type} {T : Nat → Nat} {sz : Nat} {h : κ → Nat} {ks : List κ} {d : κ} : hWalk T sz h ks d 0 := fun i hi => absurd hi (Nat.not_lt_zero _)
theorem hWalk.succ {κ : Type} {T : Nat → Nat} {sz : Nat} {h : κ → Nat} {ks : List κ} {d : κ} {j : Nat} (w : hWalk T sz h ks d j) {k : Nat} (hk : T ((h d + j) % sz) = k + 1) (hn : ks[k]? ≠ some d) : hWalk T sz h ks d (j + 1) := fun i hi => by
  rcases Nat.lt_or_ge i j with q | q
  · exact w i q
  · have : i = j := by omega
    subst this
    exact ⟨k, hk, hn⟩
theorem hWalk.miss {κ : Type} {T : Nat → Nat} {sz : Nat} {h : κ → Nat} {ks : List κ} {d : κ} {j : Nat} (H : hOk T sz h ks) (w : hWalk T sz h ks d j) (h0 : T ((h d + j) % sz) = 0) : d ∉ ks := fun hd => by
  obtain ⟨k, hk, rfl⟩ := List.getElem_of_mem hd
  obtain ⟨j', hj', e, hi⟩ := H.2.2.2 k hk
  rcases Nat.lt_trichotomy j' j with q | q | q
  · obtain ⟨k', e', hn⟩ := w j' q
    rw [e] at e'
    have : k = k' := by omega
    subst this
    exact hn (List.getElem?_eq_getElem hk)
  · subst q; rw [e] at h0; cases h0
  · exact hi j q h0
theorem hWalk.lt {κ : Type} {T : Nat → Nat} {sz : Nat} {h : κ → Nat} {ks : List κ} {d : κ} {j : Nat} (H : hOk T sz h ks) (hl : ks.length < sz) (w : hWalk T sz h ks d j) : j < sz := by
  obtain ⟨j', hj', e⟩ := H.free hl (h d)
  rcases Nat.lt_or_ge j sz with q | q
  · exact q
  · obtain ⟨k, e', _⟩ := w j' (by omega)
    rw [e] at e'; cases e'
theorem hOk.add {κ : Type} {T T' : Nat → Nat} {sz : Nat} {h : κ → Nat} {ks : List κ} {d : κ} {j : Nat} (H : hOk T sz h ks) (w : hWalk T sz h ks d j) (hj : j < sz) (h0 : T ((h d + j) % sz) = 0) (hT : T' ((h d + j) % sz) = ks.length + 1) (hT' : ∀ s, s < sz → s ≠ (h d + j) % sz → T' s = T s) : hOk T' sz h (ks ++ [d]) := by
  have hm := hWalk.miss H w h0
  have hsz : 0 < sz := by omega
  have hne : ∀ s, s < sz → T s ≠ 0 → T' s = T s := fun s hs q => hT' s hs (fun e => q (by rw [e]; exact h0))
  have hml : ∀ a, a % sz < sz := fun a => Nat.mod_lt _ hsz
  refine ⟨?_, fun s hs => ?_, fun s s' hs hs' e q => ?_, fun k hk => ?_⟩
  · rw [List.nodup_append]
    refine ⟨H.1, by simp, fun a ha b hb e => hm ?_⟩
    rw [← List.mem_singleton.mp hb, ← e]; exact ha
  · by_cases e : s = (h d + j) % sz
    · rw [e, hT]; simp
    · rw [hT' s hs e]; have := H.2.1 s hs; simp; omega
  · by_cases e1 : s = (h d + j) % sz
    · by_cases e2 : s' = (h d + j) % sz
      · rw [e1, e2]
      · rw [e1, hT, hT' s' hs' e2] at e
        have := H.2.1 s' hs'
        omega
    · by_cases e2 : s' = (h d + j) % sz
      · rw [e2, hT, hT' s hs e1] at e
        have := H.2.1 s hs
        omega
      · rw [hT' s hs e1] at e q
        rw [hT' s' hs' e2] at e
        exact H.2.2.1 s s' hs hs' e q
  · rw [List.length_append, List.length_singleton] at hk
    rcases Nat.lt_or_ge k ks.length with q | q
    · obtain ⟨j', hj', e, hi⟩ := H.2.2.2 k q
      refine ⟨j', hj', ?_, fun i hi' => ?_⟩
      · rw [List.getElem_append_left q, hne _ (hml _) (by rw [e]; simp)]; exact e
      · rw [List.getElem_append_left q, hne _ (hml _) (hi i hi')]; exact hi i hi'
    · have : k = ks.length := by omega
      subst this
      have e : (ks ++ [d])[ks.length] = d := by simp
      refine ⟨j, hj, by rw [e]; exact hT, fun i hi => ?_⟩
      rw [e]
      obtain ⟨k', e', _⟩ := w i hi
      rw [hne _ (hml _) (by rw [e']; simp), e']
      simp
-- longs as bits
def uN (x : Int64) : Nat := x.toUInt64.toNat
theorem uN_bv (x : Int64) : uN x = x.toBitVec.toNat := rfl
theorem uN_lt (x : Int64) : uN x < 2 ^ 64 := x.toBitVec.isLt
theorem uN_inj {x y : Int64} (h : uN x = uN y) : x = y := by
  apply Int64.toBitVec_inj.mp
  exact BitVec.eq_of_toNat_eq h
theorem uN_lN {n : Nat} (h : n < 2 ^ 64) : uN (lN n) = n := by
  rw [uN_bv, lN, Int64.toBitVec_ofNat', BitVec.toNat_ofNat, Nat.mod_eq_of_lt h]
theorem lN_uN (x : Int64) : lN (uN x) = x := uN_inj (uN_lN (uN_lt x))
theorem lN_inj {m n : Nat} (hm : m < 2 ^ 64) (hn : n < 2 ^ 64) (h : lN m = lN n) : m = n := by rw [← uN_lN hm, h, uN_lN hn]
theorem uN_or (x y : Int64) : uN (x ||| y) = uN x ||| uN y := by simp only [uN_bv, Int64.toBitVec_or, BitVec.toNat_or]
theorem uN_and (x y : Int64) : uN (x &&& y) = uN x &&& uN y := by simp only [uN_bv, Int64.toBitVec_and, BitVec.toNat_and]
theorem sh_63 {k : Nat} (hk : k < 64) : ((nI k).toInt64.toUInt64 &&& Int64.toUInt64 63).toNat = k := by
  rw [nI_l (by omega)]
  show (BitVec.toNat ((lN k &&& 63).toBitVec)) = k
  rw [← uN_bv, uN_and, uN_lN (by omega)]
  show k &&& 63 = k
  rw [show 63 = 2 ^ 6 - 1 from rfl, Nat.and_two_pow_sub_one_eq_mod, Nat.mod_eq_of_lt hk]
theorem uN_shr (x : Int64) {k : Nat} (hk : k < 64) : uN (x.toUInt64 >>> ((nI k).toInt64.toUInt64 &&& Int64.toUInt64 63)).toInt64 = uN x / 2 ^ k := by
  show ((x.toUInt64 >>> ((nI k).toInt64.toUInt64 &&& Int64.toUInt64 63))).toNat = _
  rw [UInt64.toNat_shiftRight, sh_63 hk, Nat.mod_eq_of_lt hk, Nat.shiftRight_eq_div_pow]
  rfl
theorem smod_64 : ∀ k : Fin 64, (BitVec.ofNat 64 k.1).smod 64 = BitVec.ofNat 64 k.1 := by decide
theorem uN_shl (x : Int64) {k : Nat} (hk : k < 64) : uN (x <<< ((nI k).toInt64 &&& 63)) = uN x * 2 ^ k % 2 ^ 64 := by
  have h : ((nI k).toInt64 &&& 63) = lN k := by
    apply uN_inj
    rw [uN_lN (by omega)]
    exact sh_63 hk
  rw [h]
  have h2 : (x <<< lN k).toBitVec = x.toBitVec <<< k := by
    rw [Int64.toBitVec_shiftLeft, lN, Int64.toBitVec_ofNat', smod_64 ⟨k, hk⟩, BitVec.shiftLeft_eq']
    congr 1
    exact Nat.mod_eq_of_lt (by omega)
  rw [uN_bv, h2, BitVec.toNat_shiftLeft, Nat.shiftLeft_eq]
  rfl
theorem or_add {a b i : Nat} (h : a < 2 ^ i) : a ||| b * 2 ^ i = a + b * 2 ^ i := by
  rw [Nat.mul_comm, Nat.or_comm, ← Nat.two_pow_add_eq_or_of_lt h, Nat.add_comm]
theorem uN_nI {n : Nat} (h : n < 2 ^ 31) : uN (nI n).toInt64 = n := by rw [nI_l h, uN_lN (by omega)]
theorem i32_bv (x : Int64) : x.toInt32.toBitVec.toNat = uN x % 2 ^ 32 := by
  rw [Int64.toBitVec_toInt32, BitVec.signExtend_eq_setWidth_of_le _ (by decide), BitVec.toNat_setWidth]
  rfl
theorem i32_and (x : Int64) : x.toInt32 &&& 15 = nI (uN x % 16) := by
  apply Int32.toBitVec_inj.mp
  apply BitVec.eq_of_toNat_eq
  rw [Int32.toBitVec_and, BitVec.toNat_and, i32_bv]
  show (uN x % 2 ^ 32) &&& 15 = _
  rw [nI, Int32.toBitVec_ofNat', BitVec.toNat_ofNat, show 15 = 2 ^ 4 - 1 from rfl, Nat.and_two_pow_sub_one_eq_mod]
  omega
theorem l_and15 (x : Int64) : (x &&& 15).toInt32 = nI (uN x % 16) := by
  rw [← i32_and]
  apply Int32.toBitVec_inj.mp
  apply BitVec.eq_of_toNat_eq
  rw [i32_bv, uN_and, Int32.toBitVec_and, BitVec.toNat_and, i32_bv]
  show (uN x &&& 15) % 2 ^ 32 = (uN x % 2 ^ 32) &&& 15
  rw [show 15 = 2 ^ 4 - 1 from rfl, Nat.and_two_pow_sub_one_eq_mod, Nat.and_two_pow_sub_one_eq_mod]
  omega
theorem l2i_lN {x : Int64} (h : uN x < 2 ^ 31) : x.toInt32 = nI (uN x) := by
  apply Int32.toBitVec_inj.mp
  apply BitVec.eq_of_toNat_eq
  rw [i32_bv, nI, Int32.toBitVec_ofNat', BitVec.toNat_ofNat]
