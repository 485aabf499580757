theorem k_0 : (0 : Int32) = nI 0 := rfl
theorem k_1 : (1 : Int32) = nI 1 := rfl
theorem k_2 : (2 : Int32) = nI 2 := rfl
theorem k_3 : (3 : Int32) = nI 3 := rfl
theorem k_4 : (4 : Int32) = nI 4 := rfl
theorem k_5 : (5 : Int32) = nI 5 := rfl
theorem k_6 : (6 : Int32) = nI 6 := rfl
theorem k_7 : (7 : Int32) = nI 7 := rfl
theorem k_8 : (8 : Int32) = nI 8 := rfl
theorem k_9 : (9 : Int32) = nI 9 := rfl
theorem k_10 : (10 : Int32) = nI 10 := rfl
theorem k_14 : (14 : Int32) = nI 14 := rfl
theorem k_15 : (15 : Int32) = nI 15 := rfl
theorem k_16 : (16 : Int32) = nI 16 := rfl
theorem k_20 : (20 : Int32) = nI 20 := rfl
theorem k_34 : (34 : Int32) = nI 34 := rfl
theorem k_40 : (40 : Int32) = nI 40 := rfl
theorem k_100 : (100 : Int32) = nI 100 := rfl
theorem k_200 : (200 : Int32) = nI 200 := rfl
theorem k_201 : (201 : Int32) = nI 201 := rfl
theorem k_256 : (256 : Int32) = nI 256 := rfl
theorem k_512 : (512 : Int32) = nI 512 := rfl
theorem k_3000 : (3000 : Int32) = nI 3000 := rfl
theorem k_8192 : (8192 : Int32) = nI 8192 := rfl
def b2 (b : Bool) : Int32 := cond b 1 0
theorem b2_t : b2 true = 1 := rfl
theorem b2_f : b2 false = 0 := rfl
theorem b2_01 (b : Bool) : b2 b = 0 ∨ b2 b = 1 := by cases b <;> simp [b2]
theorem b2_0 {b : Bool} : b2 b = 0 ↔ b = false := by cases b <;> simp [b2]
theorem b2_1 {b : Bool} : b2 b = 1 ↔ b = true := by cases b <;> simp [b2]
theorem b2_P {P : Prop} [Decidable P] (h : P) : (1 : Int32) = b2 (decide P) := by simp [b2, h]
theorem b2_N {P : Prop} [Decidable P] (h : ¬ P) : (0 : Int32) = b2 (decide P) := by simp [b2, h]
/-- an int of a place, or -1 -/
def oI (g : Option Nat) : Int32 := match g with
  | none => -1
  | some n => nI n
theorem up_same {α : Type} (f : Nat → α) (k : Nat) (v : α) : va_up f k v k = v := va_up_self f k v
theorem upd_same (f : Nat → Int32) (k : Nat) (v : Int32) : upd f k v k = v := by simp [upd]
theorem upd_ne (f : Nat → Int32) {k j : Nat} (v : Int32) (h : j ≠ k) : upd f k v j = f j := by simp [upd, h]
theorem x_for {P : Nat → Prop} {n : Nat} (h : ∀ i, i ≤ n → (i < n → P (i + 1)) → P i) : ∀ i, i ≤ n → P i := by
  have key : ∀ d i, i + d = n → P i := by
    intro d
    induction d with
    | zero => exact fun i hi => h i (by omega) (fun q => by omega)
    | succ d IH => exact fun i hi => h i (by omega) (fun _ => IH (i + 1) (by omega))
  exact fun i hi => key (n - i) i (by omega)
/-- downwards -/
theorem x_fod {P : Nat → Prop} (h0 : P 0) (h : ∀ i, P i → P (i + 1)) : ∀ i, P i := fun i => Nat.rec h0 h i
theorem nle {a b : Nat} (h : nI a ≥ nI b) (ha : a < 2 ^ 31 := by omega) (hb : b < 2 ^ 31 := by omega) : b ≤ a := (nI_leI hb ha).mp h
theorem nlt {a b : Nat} (h : ¬ nI a ≥ nI b) (ha : a < 2 ^ 31 := by omega) (hb : b < 2 ^ 31 := by omega) : a < b := Nat.not_le.mp (fun q => h ((nI_leI hb ha).mpr q))
theorem nltl {a b : Nat} (h : nI a < nI b) (ha : a < 2 ^ 31 := by omega) (hb : b < 2 ^ 31 := by omega) : a < b := (nI_ltI ha hb).mp h
theorem nnlt {a b : Nat} (h : ¬ nI a < nI b) (ha : a < 2 ^ 31 := by omega) (hb : b < 2 ^ 31 := by omega) : b ≤ a := Nat.not_lt.mp (fun q => h ((nI_ltI ha hb).mpr q))
theorem oI_neg {o : Option Nat} (h : oI o < 0) (hs : ∀ g, o = some g → g < 2 ^ 31) : o = none := by
  cases o with
  | none => rfl
  | some g => exact absurd h (nI_pos (hs g rfl))
theorem oI_pos {o : Option Nat} (h : ¬ oI o < 0) : ∃ g, o = some g := by
  cases o with
  | none => exact absurd (by decide) h
  | some g => exact ⟨g, rfl⟩
