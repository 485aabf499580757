def cnt (c : Nat → Bool) : Nat → Nat
  | 0 => 0
  | n + 1 => cnt c n + cond (c n) 1 0
theorem cnt_le (c : Nat → Bool) : ∀ n, cnt c n ≤ n
  | 0 => Nat.le_refl _
  | n + 1 => by
    have := cnt_le c n
    unfold cnt
    cases c n <;> simp <;> omega
theorem cnt_mono {c c' : Nat → Bool} : ∀ {n : Nat}, (∀ t, t < n → c t = true → c' t = true) → cnt c n ≤ cnt c' n
  | 0, _ => Nat.le_refl _
  | n + 1, h => by
    have := cnt_mono (n := n) (fun t ht => h t (by omega))
    have h2 := h n (by omega)
    unfold cnt
    cases hc : c n <;> cases hc' : c' n <;> simp_all <;> omega
theorem cnt_lt {c c' : Nat → Bool} : ∀ {n : Nat}, (∀ t, t < n → c t = true → c' t = true) → ∀ {g : Nat}, g < n → c g = false → c' g = true → cnt c n < cnt c' n
  | 0, _, g, hg, _, _ => by omega
  | n + 1, h, g, hg, h1, h2 => by
    unfold cnt
    by_cases e : g = n
    · subst e
      have := cnt_mono (n := g) (fun t ht => h t (by omega))
      rw [h1, h2]
      simp
      omega
    · have := cnt_lt (n := n) (fun t ht => h t (by omega)) (g := g) (by omega) h1 h2
      have h3 := h n (by omega)
      cases hc : c n <;> cases hc' : c' n <;> simp_all <;> omega
theorem cnt_pos {c : Nat → Bool} : ∀ {n g : Nat}, g < n → c g = true → 1 ≤ cnt c n
  | 0, g, h, _ => by omega
  | n + 1, g, h, h1 => by
    unfold cnt
    by_cases e : g = n
    · subst e; rw [h1]; simp
    · have := cnt_pos (c := c) (n := n) (g := g) (by omega) h1
      omega
/-- closed where the states are there -/
def mCT (M : xMac) (S : Nat → Prop) : Prop := ∀ t, S t → t < mN M → ∀ x, x < mK M → ∀ g, mGo M t x = some g → S g
theorem b2_eq {b c : Bool} (h : b2 b = b2 c) : b = c := by
  cases b <;> cases c <;> simp [b2] at h <;> rfl
