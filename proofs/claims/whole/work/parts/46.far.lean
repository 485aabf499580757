/-- p is reached from f by d moves -/
def rch (M : xMac) (n f : Nat) : Nat → Nat → Prop
  | 0, p => p = f
  | d + 1, p => ∃ q, rch M n f d q ∧ ∃ m ∈ mMarks M, mkp M n m q = p
/-- and by no fewer -/
def isD (M : xMac) (n f p d : Nat) : Prop := rch M n f d p ∧ ∀ k, k < d → ¬ rch M n f k p
theorem rch_isD {M : xMac} {n f p d : Nat} (h : rch M n f d p) : ∃ k, k ≤ d ∧ isD M n f p k := by
  obtain ⟨k, h1, h2⟩ := pk_least (fun k => rch M n f k p) ⟨d, h⟩
  exact ⟨k, Nat.not_lt.mp (fun q => h2 d q h), h1, h2⟩
theorem isD.uq {M : xMac} {n f p d e : Nat} (h1 : isD M n f p d) (h2 : isD M n f p e) : d = e := by
  rcases Nat.lt_trichotomy d e with h | h | h
  · exact absurd h1.1 (h2.2 d h)
  · exact h
  · exact absurd h2.1 (h1.2 e h)
theorem isD.pred {M : xMac} {n f p d : Nat} (h : isD M n f p (d + 1)) : ∃ q, isD M n f q d ∧ ∃ m ∈ mMarks M, mkp M n m q = p := by
  obtain ⟨q, hq, m, hm, e⟩ := h.1
  obtain ⟨k, hk, hd⟩ := rch_isD hq
  by_cases ek : k = d
  · subst ek; exact ⟨q, hd, m, hm, e⟩
  · exact absurd (show rch M n f (k + 1) p from ⟨q, hd.1, m, hm, e⟩) (h.2 (k + 1) (by omega))
theorem isD.all {M : xMac} {n f p d : Nat} (h : isD M n f p d) : ∀ k, k ≤ d → ∃ q, isD M n f q (d - k) := by
  intro k
  induction k with
  | zero => intro _; exact ⟨p, h⟩
  | succ k IH =>
    intro hk
    obtain ⟨q, hq⟩ := IH (by omega)
    rw [show d - k = (d - (k + 1)) + 1 by omega] at hq
    obtain ⟨q', hq', -⟩ := hq.pred
    exact ⟨q', hq'⟩
theorem rch_lt {M : xMac} (hM : mOk M) (hwh : mWhole M) (hmk : ∀ {n m p : Nat}, mOkm M m → mkp M n m p < mK M ^ n) (hok : ∀ m ∈ mMarks M, mOkm M m) {n f : Nat} (hf : f < mK M ^ n) : ∀ {d p : Nat}, rch M n f d p → p < mK M ^ n
  | 0, p, h => by rw [show p = f from h]; exact hf
  | d + 1, p, h => by
    obtain ⟨q, -, m, hm, rfl⟩ := h
    exact hmk (hok m hm)
/-- a distance is below the number of rows -/
theorem isD_lt {M : xMac} {n f p d N : Nat} (hlt : ∀ {d p : Nat}, rch M n f d p → p < N) (h : isD M n f p d) : d < N := by
  have key : ∀ j, j ≤ d → j + 1 ≤ cnt (fun q => @decide (∃ k, k ≤ j ∧ isD M n f q k) (Classical.propDecidable _)) N := by
    intro j
    induction j with
    | zero =>
      intro _
      obtain ⟨q, hq⟩ := h.all d (Nat.le_refl _)
      rw [Nat.sub_self] at hq
      refine cnt_pos (g := q) (hlt hq.1) ?_
      simp only [decide_eq_true_eq]
      exact ⟨0, Nat.le_refl _, hq⟩
    | succ j IH =>
      intro hj
      obtain ⟨q, hq⟩ := h.all (d - (j + 1)) (by omega)
      rw [show d - (d - (j + 1)) = j + 1 by omega] at hq
      refine Nat.lt_of_le_of_lt (IH (by omega)) (cnt_lt (g := q) (fun t _ ht => ?_) (hlt hq.1) ?_ ?_)
      · simp only [decide_eq_true_eq] at ht ⊢
        obtain ⟨k, hk, hd⟩ := ht
        exact ⟨k, by omega, hd⟩
      · simp only [decide_eq_false_iff_not]
        rintro ⟨k, hk, hd⟩
        have := hd.uq hq
        omega
      · simp only [decide_eq_true_eq]
        exact ⟨j + 1, Nat.le_refl _, hq⟩
  have h1 := key d (Nat.le_refl _)
  have h2 := cnt_le (fun q => @decide (∃ k, k ≤ d ∧ isD M n f q k) (Classical.propDecidable _)) N
  omega
noncomputable def dst (M : xMac) (n f p : Nat) : Option Nat := @dite _ (∃ d, isD M n f p d) (Classical.propDecidable _) (fun h => some (Classical.choose h)) (fun _ => none)
theorem dst_some {M : xMac} {n f p d : Nat} (h : isD M n f p d) : dst M n f p = some d := by
  unfold dst
  rw [dif_pos ⟨d, h⟩]
  exact congrArg some ((Classical.choose_spec (⟨d, h⟩ : ∃ d, isD M n f p d)).uq h)
theorem dst_none {M : xMac} {n f p : Nat} (h : ∀ d, ¬ isD M n f p d) : dst M n f p = none := by
  unfold dst
  rw [dif_neg (fun q => by obtain ⟨d, hd⟩ := q; exact h d hd)]
theorem dst_of {M : xMac} {n f p d : Nat} (h : dst M n f p = some d) : isD M n f p d := by
  unfold dst at h
  split at h
  · rename_i hh
    cases h
    exact Classical.choose_spec hh
  · cases h
