noncomputable def mF (M : xMac) (t : Nat) : Bool := @decide (mFair M t) (Classical.propDecidable _)
theorem mF_iff {M : xMac} {t : Nat} : mF M t = true ↔ mFair M t := by simp [mF]
theorem b2_iff {b : Bool} {c : Bool} (h : b = true ↔ c = true) : b2 b = b2 c := by cases b <;> cases c <;> simp_all
def w2n (v : Int32) : Nat := v.toInt.toNat
def i2o (v : Int32) : Option Nat := if v < 0 then none else some (w2n v)
theorem w2n_nI {n : Nat} (h : n < 2 ^ 31) : w2n (nI n) = n := by simp [w2n, nI_toInt h]
theorem nI_w2n {v : Int32} (h : ¬ v < 0) : nI (w2n v) = v := by
  apply Int32.toInt_inj.mp
  have h1 := Int32.toInt_lt v
  rw [Int32.lt_iff_toInt_lt] at h
  have h2 : (0 : Int32).toInt = 0 := by decide
  rw [h2] at h
  unfold w2n
  rw [nI_toInt (by omega)]
  omega
theorem oI_i2o {v : Int32} (h : -1 ≤ v) : oI (i2o v) = v := by
  unfold i2o
  by_cases h0 : v < 0
  · rw [if_pos h0]
    have h2 : (0 : Int32).toInt = 0 := by decide
    have h3 : (-1 : Int32).toInt = -1 := by decide
    rw [Int32.lt_iff_toInt_lt, h2] at h0
    rw [Int32.le_iff_toInt_le, h3] at h
    apply Int32.toInt_inj.mp
    show (-1 : Int32).toInt = _
    rw [h3]
    omega
  · rw [if_neg h0]
    exact nI_w2n h0
theorem i2o_oI {o : Option Nat} (h : ∀ g, o = some g → g < 2 ^ 31) : i2o (oI o) = o := by
  cases o with
  | none => rfl
  | some g =>
    have hg := h g rfl
    show i2o (nI g) = some g
    rw [i2o, if_neg (nI_pos hg), w2n_nI hg]
-- letters, states
def sp_letters (S : xSt) (k : Int32) : Int32 × xSt := if 2 ≤ k ∧ k ≤ 4 then (1, (S.1, (w2n k, 0, S.2.1.2.2), fun _ => [])) else (-1, S)
def stW (q : Nat × Nat × (Nat → Int32)) (i x : Nat) : Int32 := if i + 2 * x + 1 < q.2.1 then q.2.2 (i + 2 * x) else nI x
def stG (q : Nat × Nat × (Nat → Int32)) (i x : Nat) : Int32 := if i + 2 * x + 1 < q.2.1 then q.2.2 (i + 2 * x + 1) else -1
/-- letter x of the sheet's pairs from i on may be read -/
def stOk (K : Nat) (q : Nat × Nat × (Nat → Int32)) (i x : Nat) : Prop := 0 ≤ (stW q i x).toInt ∧ (stW q i x).toInt < K ∧ -1 ≤ (stG q i x).toInt ∧ (stG q i x).toInt ≤ 7
noncomputable def stB (K : Nat) (q : Nat × Nat × (Nat → Int32)) (i : Nat) : Bool := @decide (∀ x, x < K → stOk K q i x) (Classical.propDecidable _)
theorem stB_iff {K : Nat} {q : Nat × Nat × (Nat → Int32)} {i : Nat} : stB K q i = true ↔ ∀ x, x < K → stOk K q i x := by simp [stB]
def addSt (M : xMac) (q : Nat × Nat × (Nat → Int32)) (i : Nat) : xMac := (mK M, mN M + 1, fun s x => if s = mN M then w2n (stW q i x) else mWr M s x, fun s x => if s = mN M then i2o (stG q i x) else mGo M s x)
noncomputable def sp_state (S : xSt) (r i : Int32) : Int32 × xSt := match ix r 4 with
  | none => (-1, S)
  | some r => if i < 0 then (-1, S) else match S.1 r with
    | none => (-3, S)
    | some q => if stB (mK S.2.1) q (w2n i) = false then (-1, S) else if mN S.2.1 = 8 then (-2, S) else (nI (mN S.2.1), (S.1, addSt S.2.1 q (w2n i), S.2.2))
def chSt (M : xMac) (s x y : Nat) (t : Option Nat) : xMac := (mK M, mN M, fun s' x' => if s' = s ∧ x' = x then y else mWr M s' x', fun s' x' => if s' = s ∧ x' = x then t else mGo M s' x')
/-- has the word a way back that is none (any more) -/
noncomputable def wLost (M : xMac) (w : List Nat) : Bool := w.any (fun m => m % 2 == 1 && !mB M (m / 2))
noncomputable def sp_change (S : xSt) (s x y t : Int32) : Int32 × xSt := match ix s (mN S.2.1), ix x (mK S.2.1), ix y (mK S.2.1) with
  | some s, some x, some y => if -1 ≤ t ∧ t ≤ 7 then (1, (S.1, chSt S.2.1 s x y (i2o t), fun w => if wLost (chSt S.2.1 s x y (i2o t)) (S.2.2 w) then [] else S.2.2 w)) else (-1, S)
  | _, _, _ => (-1, S)
noncomputable def sp_of (S : xSt) (s x what : Int32) : Int32 := match ix s (mN S.2.1), ix what 3 with
  | some s, some 2 => b2 (mB S.2.1 s)
  | some s, some w => match ix x (mK S.2.1) with
    | none => -2
    | some x => if w = 0 then nI (mWr S.2.1 s x) else oI (mGo S.2.1 s x)
  | _, _ => -2
noncomputable def sp_many (S : xSt) (what : Int32) : Int32 := if what = 0 then nI (mK S.2.1) else if what = 1 then nI (mN S.2.1) else if what = 2 then b2 (mW S.2.1) else if what = 3 then nI (mMarks S.2.1).length else -1
