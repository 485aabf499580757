/-- a level: its number of letters, if there are at most 'most' rows -/
noncomputable def lvl (K : Nat) (v : Int32) (most : Nat) : Option Nat := @dite _ (0 ≤ v.toInt ∧ K ^ (w2n v) ≤ most) (Classical.propDecidable _) (fun _ => some (w2n v)) (fun _ => none)
theorem lvl_some {K : Nat} {v : Int32} {most n : Nat} (h : lvl K v most = some n) : v = nI n ∧ K ^ n ≤ most := by
  unfold lvl at h
  split at h
  · rename_i hh
    cases h
    exact ⟨(nI_w2n (by rw [lt_toInt, ti_0]; omega)).symm, hh.2⟩
  · cases h
theorem lvl_pos {K : Nat} {v : Int32} {most : Nat} (h : 0 ≤ v.toInt) (h2 : K ^ (w2n v) ≤ most) : lvl K v most = some (w2n v) := by
  unfold lvl
  rw [dif_pos ⟨h, h2⟩]
theorem lvl_none {K : Nat} {v : Int32} {most : Nat} (h : v.toInt < 0 ∨ most < K ^ (w2n v)) : lvl K v most = none := by
  unfold lvl
  rw [dif_neg (fun q => by rcases h with h | h <;> omega)]
theorem pow_big {K : Nat} (hK : 2 ≤ K) : ∀ n, n < K ^ n
  | 0 => by simp
  | n + 1 => by
    have := pow_big hK n
    rw [Nat.pow_succ]
    have h2 : K ^ n * 2 ≤ K ^ n * K := Nat.mul_le_mul_left _ hK
    omega
theorem lvl_n {K n most : Nat} (hK : 2 ≤ K) (h : K ^ n ≤ most) : n < most := Nat.lt_of_lt_of_le (pow_big hK n) h
/-- the place of a row in its level, and the row of a place -/
def plc (K : Nat) (r : List Nat) : Nat := r.foldl (fun a x => a * K + x) 0
def rOfP (K : Nat) : Nat → Nat → List Nat
  | 0, _ => []
  | n + 1, p => rOfP K n (p / K) ++ [p % K]
theorem plc_snoc (K : Nat) (r : List Nat) (x : Nat) : plc K (r ++ [x]) = plc K r * K + x := by simp [plc, List.foldl_append]
theorem rOfP_len (K : Nat) : ∀ n p, (rOfP K n p).length = n
  | 0, _ => rfl
  | n + 1, p => by simp [rOfP, rOfP_len K n]
theorem rOfP_lt {K : Nat} (hK : 0 < K) : ∀ n p, ∀ x ∈ rOfP K n p, x < K
  | 0, _, x, h => by cases h
  | n + 1, p, x, h => by
    unfold rOfP at h
    rcases List.mem_append.mp h with h | h
    · exact rOfP_lt hK n _ x h
    · rw [List.mem_singleton.mp h]; exact Nat.mod_lt _ hK
theorem plc_rOfP {K : Nat} (hK : 0 < K) : ∀ n p, p < K ^ n → plc K (rOfP K n p) = p
  | 0, p, h => by
    rw [Nat.pow_zero] at h
    have : p = 0 := by omega
    subst this
    rfl
  | n + 1, p, h => by
    unfold rOfP
    rw [plc_snoc, plc_rOfP hK n (p / K) (by rw [Nat.div_lt_iff_lt_mul hK, ← Nat.pow_succ]; exact h), Nat.mul_comm]
    exact Nat.div_add_mod p K
theorem plc_lt {K : Nat} : ∀ (r : List Nat), (∀ x ∈ r, x < K) → plc K r < K ^ r.length := by
  refine lrev ?_ ?_
  · intro _; simp [plc]
  · intro r x IH h
    have h1 := IH (fun y hy => h y (List.mem_append_left _ hy))
    have h2 := h x (List.mem_append_right _ (List.mem_singleton.mpr rfl))
    rw [plc_snoc, List.length_append, List.length_singleton, Nat.pow_succ]
    have h3 : (plc K r + 1) * K ≤ K ^ r.length * K := Nat.mul_le_mul_right _ h1
    rw [Nat.add_mul] at h3
    omega
theorem rOfP_plc {K : Nat} (hK : 0 < K) : ∀ (r : List Nat), (∀ x ∈ r, x < K) → rOfP K r.length (plc K r) = r := by
  refine lrev ?_ ?_
  · intro _; rfl
  · intro r x IH h
    have h1 := IH (fun y hy => h y (List.mem_append_left _ hy))
    have h2 := h x (List.mem_append_right _ (List.mem_singleton.mpr rfl))
    rw [plc_snoc, List.length_append, List.length_singleton]
    unfold rOfP
    have e1 : (plc K r * K + x) / K = plc K r := by
      rw [Nat.add_comm, Nat.add_mul_div_right _ _ hK, Nat.div_eq_of_lt h2, Nat.zero_add]
    have e2 : (plc K r * K + x) % K = x := by
      rw [Nat.add_comm, Nat.add_mul_mod_self_right, Nat.mod_eq_of_lt h2]
    rw [e1, e2, h1]
/-- what a mark makes of a place -/
def mkp (M : xMac) (n m p : Nat) : Nat := plc (mK M) (mact M (some m) (rOfP (mK M) n p))
