/-- a row of a level -/
def levRow (K : Nat) (v : Int32) : Option (List Nat) := match rowOf K v with
  | none => none
  | some r => if K ^ r.length ≤ 256 then some r else none
theorem levRow_some {K : Nat} {v : Int32} {r : List Nat} (h : levRow K v = some r) : rowOf K v = some r ∧ K ^ r.length ≤ 256 := by
  unfold levRow at h
  cases hr : rowOf K v with
  | none => rw [hr] at h; cases h
  | some q =>
    rw [hr] at h
    simp only at h
    split at h
    · cases h; rename_i hh; exact ⟨rfl, hh⟩
    · cases h
theorem lvl_len {K n : Nat} (hn : n ≤ 10) : lvl K (nI n) 256 = if K ^ n ≤ 256 then some n else none := by
  have e : w2n (nI n) = n := w2n_nI (by omega)
  by_cases h : K ^ n ≤ 256
  · rw [if_pos h]
    have := lvl_pos (K := K) (v := nI n) (most := 256) (by rw [nI_toInt (by omega)]; omega) (by rw [e]; exact h)
    rw [e] at this
    exact this
  · rw [if_neg h]
    exact lvl_none (Or.inr (by rw [e]; omega))
noncomputable def sp_lev (S : xSt) (row : Int32) : Int32 := match levRow (mK S.2.1) row with
  | none => -1
  | some _ => if mW S.2.1 = false then -5 else 0
def xrw (S : xSt) (row : Int32) : List Nat := (rowOf (mK S.2.1) row).getD []
noncomputable def orbN (M : xMac) (n f : Nat) : Nat := cnt (fun p => (dst M n f p).isSome) (mK M ^ n)
noncomputable def sp_orbit (S : xSt) (row : Int32) : Int32 := if sp_lev S row = 0 then nI (orbN S.2.1 (xrw S row).length (plc (mK S.2.1) (xrw S row))) else sp_lev S row
noncomputable def mxd (M : xMac) (n f : Nat) : Nat → Nat
  | 0 => 0
  | k + 1 => max (mxd M n f k) ((dst M n f k).getD 0)
noncomputable def sp_reach (S : xSt) (row : Int32) : Int32 := if sp_lev S row = 0 then nI (mxd S.2.1 (xrw S row).length (plc (mK S.2.1) (xrw S row)) (mK S.2.1 ^ (xrw S row).length)) else sp_lev S row
noncomputable def sp_rows (S : xSt) (a b : Int32) : Int32 := match levRow (mK S.2.1) a, rowOf (mK S.2.1) b with
  | some r, some q => if q.length = r.length then sp_lev S a else -1
  | _, _ => -1
noncomputable def sp_far (S : xSt) (a b : Int32) : Int32 := if sp_rows S a b = 0 then (match dst S.2.1 (xrw S a).length (plc (mK S.2.1) (xrw S a)) (plc (mK S.2.1) (xrw S b)) with
  | none => -8
  | some d => nI d) else sp_rows S a b
