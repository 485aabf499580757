section C17
variable {G : xG} {I : xI} {J : xJ}
-- numbers by first appearance
noncomputable def fstB (σ : Nat → kK) (h : Nat) : Bool := @decide (∀ g, g < h → σ g ≠ σ h) (Classical.propDecidable _)
theorem fstB_iff {σ : Nat → kK} {h : Nat} : fstB σ h = true ↔ ∀ g, g < h → σ g ≠ σ h := by simp [fstB]
def nmb (σ : Nat → kK) (arr : Nat → Int32) (ks : List kK) (i : Nat) : Prop := ∃ c : Nat → Nat, (∀ h, h < i → arr h = nI (c h) ∧ ks[c h]? = some (σ h)) ∧ (∀ k ∈ ks, ∃ h, h < i ∧ σ h = k) ∧ ks.length = cnt (fstB σ) i
theorem nmb.nil {σ : Nat → kK} {arr : Nat → Int32} : nmb σ arr [] 0 := ⟨fun _ => 0, (fun h hh => absurd hh (Nat.not_lt_zero _)), (fun k hk => by cases hk), rfl⟩
theorem nmb.old {σ : Nat → kK} {arr : Nat → Int32} {ks : List kK} {i j : Nat} (h : nmb σ arr ks i) (hj : ks[j]? = some (σ i)) : nmb σ (upd arr i (nI j)) ks (i + 1) := by
  obtain ⟨c, h1, h2, h3⟩ := h
  refine ⟨fun k => if k = i then j else c k, fun k hk => ?_, fun k hk => ?_, ?_⟩
  · show upd arr i (nI j) k = nI (if k = i then j else c k) ∧ ks[if k = i then j else c k]? = some (σ k)
    by_cases e : k = i
    · rw [if_pos e, e, upd_same]; exact ⟨rfl, hj⟩
    · rw [if_neg e, upd_ne _ _ e]; exact h1 k (by omega)
  · obtain ⟨g, hg, e⟩ := h2 k hk
    exact ⟨g, by omega, e⟩
  · have : fstB σ i = false := by
      cases hq : fstB σ i with
      | false => rfl
      | true =>
        obtain ⟨g, hg, e⟩ := h2 _ (List.mem_of_getElem? hj)
        exact absurd e (fstB_iff.mp hq g hg)
    show _ = cnt (fstB σ) i + cond (fstB σ i) 1 0
    rw [this, h3]; rfl
theorem nmb.new {σ : Nat → kK} {arr : Nat → Int32} {ks : List kK} {i : Nat} (h : nmb σ arr ks i) (hn : σ i ∉ ks) : nmb σ (upd arr i (nI ks.length)) (ks ++ [σ i]) (i + 1) := by
  obtain ⟨c, h1, h2, h3⟩ := h
  refine ⟨fun k => if k = i then ks.length else c k, fun k hk => ?_, fun k hk => ?_, ?_⟩
  · show upd arr i (nI ks.length) k = nI (if k = i then ks.length else c k) ∧ (ks ++ [σ i])[if k = i then ks.length else c k]? = some (σ k)
    by_cases e : k = i
    · rw [if_pos e, e, upd_same]; exact ⟨rfl, by simp⟩
    · rw [if_neg e, upd_ne _ _ e]
      obtain ⟨u1, u2⟩ := h1 k (by omega)
      refine ⟨u1, ?_⟩
      rw [List.getElem?_append_left (List.getElem?_eq_some_iff.mp u2).1]
      exact u2
  · rcases List.mem_append.mp hk with q | q
    · obtain ⟨g, hg, e⟩ := h2 k q
      exact ⟨g, by omega, e⟩
    · exact ⟨i, by omega, (List.mem_singleton.mp q).symm⟩
  · have : fstB σ i = true := fstB_iff.mpr (fun g hg e => hn (by
      rw [← e]
      exact List.mem_of_getElem? (h1 g hg).2))
    show _ = cnt (fstB σ) i + cond (fstB σ i) 1 0
    rw [this, List.length_append, h3]; rfl
theorem nmb.cls {M : xMac} {hs : List (List Nat)} {n : Nat} {σ : Nat → kK} {arr : Nat → Int32} {ks : List kK} (h : nmb σ arr ks hs.length) (hn : ks.Nodup) (he : ∀ g k, g < hs.length → k < hs.length → (σ g = σ k ↔ wEqn M n (hs.getD g []) (hs.getD k []))) : (∃ c, isCls M hs n arr c hs.length) ∧ ks.length = ncl M hs n := by
  obtain ⟨c, h1, h2, h3⟩ := h
  have e : cnt (fstB σ) hs.length = cnt (wFst M hs n) hs.length := Nat.le_antisymm (cnt_mono (fun t ht q => wFst_iff.mpr (fun g hg q2 => fstB_iff.mp q g hg ((he g t (by omega) ht).mpr q2)))) (cnt_mono (fun t ht q => fstB_iff.mpr (fun g hg q2 => wFst_iff.mp q g hg ((he g t (by omega) ht).mp q2))))
  refine ⟨⟨c, fun k hk => ⟨(h1 k hk).1, ?_⟩, fun g k hg hk => ?_⟩, by rw [h3, e]; rfl⟩
  · rw [← e, ← h3]
    exact (List.getElem?_eq_some_iff.mp (h1 k hk).2).1
  · rw [← he g k hg hk]
    obtain ⟨g1, g2⟩ := List.getElem?_eq_some_iff.mp (h1 g hg).2
    obtain ⟨k1, k2⟩ := List.getElem?_eq_some_iff.mp (h1 k hk).2
    constructor
    · intro q
      rw [← g2, ← k2]
      congr 1
    · intro q
      rw [← g2, ← k2] at q
      exact (List.getElem_inj hn).mp q
/-- the writings of two words are one just where they write the same -/
theorem wrt_eq {M : xMac} (hM : mOk M) (hwh : mWhole M) {a b : List Nat} (ha : wOk M a) (hb : wOk M b) : ∀ x, x ≤ mK M → (wrt M a x = wrt M b x ↔ ∀ y, y < x → wout M a y = wout M b y)
  | 0, _ => ⟨fun _ y hy => absurd hy (Nat.not_lt_zero _), fun _ => rfl⟩
  | x + 1, hx => by
    have IH := wrt_eq hM hwh ha hb x (by omega)
    have a1 := wrt_lt hM hwh ha x (by omega)
    have b1 := wrt_lt hM hwh hb x (by omega)
    constructor
    · intro h
      have h : wrt M a x + wout M a x * 4 ^ x = wrt M b x + wout M b x * 4 ^ x := h
      have d1 : (wrt M a x + wout M a x * 4 ^ x) / 4 ^ x = wout M a x := by rw [Nat.add_mul_div_right _ _ (Nat.pow_pos (by decide)), Nat.div_eq_of_lt a1, Nat.zero_add]
      have d2 : (wrt M b x + wout M b x * 4 ^ x) / 4 ^ x = wout M b x := by rw [Nat.add_mul_div_right _ _ (Nat.pow_pos (by decide)), Nat.div_eq_of_lt b1, Nat.zero_add]
      have e : wout M a x = wout M b x := by rw [← d1, h, d2]
      rw [e] at h
      have h2 := IH.mp (Nat.add_right_cancel h)
      intro y hy
      rcases Nat.lt_or_ge y x with q | q
      · exact h2 y q
      · have : y = x := by omega
        rw [this]; exact e
    · intro h
      show wrt M a x + wout M a x * 4 ^ x = wrt M b x + wout M b x * 4 ^ x
      rw [IH.mpr (fun y hy => h y (by omega)), h x (by omega)]
theorem wrt_256 {M : xMac} (hM : mOk M) (hwh : mWhole M) {a : List Nat} (ha : wOk M a) : wrt M a (mK M) < 256 := by
  have h1 := wrt_lt hM hwh ha (mK M) (Nat.le_refl _)
  have h2 : 4 ^ mK M ≤ 4 ^ 4 := Nat.pow_le_pow_right (by decide) hM.2.1
  have h3 : 4 ^ 4 = 256 := by decide
  omega
theorem eq1_iff {M : xMac} (hM : mOk M) (hwh : mWhole M) {a b : List Nat} (ha : wOk M a) (hb : wOk M b) : wrt M a (mK M) = wrt M b (mK M) ↔ wEqn M 1 a b := by
  rw [wrt_eq hM hwh ha hb (mK M) (Nat.le_refl _)]
  exact ⟨fun h x hx => ⟨h x hx, trivial⟩, fun h x hx => (h x hx).1⟩
-- numbers below 256, eight bits each
def b8 (l : List Nat) : Nat := l.foldl (fun a k => a * 256 + k) 0
theorem b8_snoc (l : List Nat) (k : Nat) : b8 (l ++ [k]) = b8 l * 256 + k := by unfold b8; rw [List.foldl_append]; rfl
theorem b8_lt : ∀ {l : List Nat}, (∀ x ∈ l, x < 256) → b8 l < 256 ^ l.length := by
  intro l
  induction l using snoc_ind with
  | h0 => intro _; simp [b8]
  | h1 l k IH =>
    intro h
    have h1 := IH (fun x hx => h x (List.mem_append_left _ hx))
    have h2 := h k (List.mem_append_right _ (List.mem_singleton.mpr rfl))
    rw [b8_snoc, List.length_append, List.length_singleton, Nat.pow_succ]
    omega
theorem b8_inj : ∀ {a b : List Nat}, (∀ x ∈ a, x < 256) → (∀ x ∈ b, x < 256) → a.length = b.length → b8 a = b8 b → a = b := by
  intro a
  induction a using snoc_ind with
  | h0 => intro b _ _ hl _; exact (List.length_eq_zero_iff.mp hl.symm).symm
  | h1 a k IH =>
    intro b ha hb hl h
    rcases list_snoc b with e | ⟨b', k', e⟩
    · subst e; simp at hl
    · subst e
      have h1 := ha k (List.mem_append_right _ (List.mem_singleton.mpr rfl))
      have h2 := hb k' (List.mem_append_right _ (List.mem_singleton.mpr rfl))
      rw [b8_snoc, b8_snoc] at h
      have e1 : k = k' := by omega
      have e2 : b8 a = b8 b' := by omega
      rw [IH (fun x hx => ha x (List.mem_append_left _ hx)) (fun x hx => hb x (List.mem_append_left _ hx)) (by simpa using hl) e2, e1]
theorem l8_push {s k : Nat} (hs : s * 256 < 2 ^ 64) (hk : k < 256) : (lN s <<< (((8 : Int32)).toInt64 &&& 63)) ||| (nI k).toInt64 = lN (s * 256 + k) := by
  apply uN_inj
  have e1 : uN (lN s <<< (((8 : Int32)).toInt64 &&& 63)) = s * 256 := by
    rw [show (8 : Int32) = nI 8 from rfl, uN_shl _ (by decide), uN_lN (by omega)]
    omega
  have e2 := Nat.two_pow_add_eq_or_of_lt (i := 8) (b := k) (by omega) s
  have h2 : s * 256 + k < 2 ^ 64 := by
    have h3 : s + 1 ≤ 2 ^ 56 := by omega
    have h4 : (s + 1) * 256 ≤ 2 ^ 56 * 256 := Nat.mul_le_mul_right _ h3
    rw [show 2 ^ 56 * 256 = 2 ^ 64 by decide] at h4
    exact Nat.lt_of_lt_of_le (by clear hs e1 e2 h3 h4; omega) h4
  rw [uN_or, e1, uN_nI (by omega), uN_lN h2, Nat.mul_comm s 256]
  exact e2.symm
end C17
