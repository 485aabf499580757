theorem le_toInt {x y : Int32} : x ≤ y ↔ x.toInt ≤ y.toInt := Int32.le_iff_toInt_le
theorem lt_toInt {x y : Int32} : x < y ↔ x.toInt < y.toInt := Int32.lt_iff_toInt_lt
theorem ti_m1 : (-1 : Int32).toInt = -1 := by decide
theorem ti_0 : (0 : Int32).toInt = 0 := by decide
theorem ti_2 : (2 : Int32).toInt = 2 := by decide
theorem ti_4 : (4 : Int32).toInt = 4 := by decide
theorem ti_7 : (7 : Int32).toInt = 7 := by decide
/-- in(x, lo, hi) of ints -/
theorem in_le {x lo hi : Int32} {a b : Int64} (ha : a.toInt = lo.toInt) (hb : b.toInt = hi.toInt) : decide (a ≤ x.toInt64 ∧ x.toInt64 ≤ b) = decide (lo ≤ x ∧ x ≤ hi) := by
  simp only [Int64.le_iff_toInt_le, Int32.le_iff_toInt_le, Int32.toInt_toInt64, ha, hb]
theorem b2d {P : Prop} [Decidable P] (h : b2 (decide P) = 0) : ¬ P := by
  have := b2_0.mp h
  simpa using this
theorem b2d' {P : Prop} [Decidable P] (h : ¬ b2 (decide P) = 0) : P := by
  have : decide P = true := by
    cases hq : decide P with
    | true => rfl
    | false => rw [hq] at h; exact absurd rfl h
  simpa using this
theorem w2n_le {x : Int32} {k : Int32} {n : Nat} (hk : k.toInt = n) (h0 : ¬ x < 0) (h : x ≤ k) : w2n x ≤ n := by
  rw [le_toInt, hk] at h
  rw [lt_toInt, ti_0] at h0
  unfold w2n
  omega
theorem i2o_some {v : Int32} {g : Nat} (h : i2o v = some g) : g = w2n v ∧ ¬ v < 0 := by
  unfold i2o at h
  split at h
  · cases h
  · rename_i hh
    exact ⟨(Option.some.inj h).symm, hh⟩
theorem wGood.nil {M : xMac} : wGood M [] := ⟨by simp, fun i h => by simp at h, fun m h => by cases h⟩
