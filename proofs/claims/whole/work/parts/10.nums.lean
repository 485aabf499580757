theorem k_0 : (0 : Int32) = nI 0 := rfl
theorem k_1 : (1 : Int32) = nI 1 := rfl
theorem k_2 : (2 : Int32) = nI 2 := rfl
theorem k_3 : (3 : Int32) = nI 3 := rfl
theorem k_4 : (4 : Int32) = nI 4 := rfl
theorem k_5 : (5 : Int32) = nI 5 := rfl
theorem k_6 : (6 : Int32) = nI 6 := rfl
theorem k_7 : (7 : Int32) = nI 7 := rfl
theorem k_8 : (8 : Int32) = nI 8 := rfl
theorem k_9 : (9 : Int32) = nI 9 := rfl
theorem k_10 : (10 : Int32) = nI 10 := rfl
theorem k_14 : (14 : Int32) = nI 14 := rfl
theorem k_15 : (15 : Int32) = nI 15 := rfl
theorem k_16 : (16 : Int32) = nI 16 := rfl
theorem k_20 : (20 : Int32) = nI 20 := rfl
theorem k_34 : (34 : Int32) = nI 34 := rfl
theorem k_40 : (40 : Int32) = nI 40 := rfl
theorem k_100 : (100 : Int32) = nI 100 := rfl
theorem k_200 : (200 : Int32) = nI 200 := rfl
theorem k_201 : (201 : Int32) = nI 201 := rfl
theorem k_256 : (256 : Int32) = nI 256 := rfl
theorem k_512 : (512 : Int32) = nI 512 := rfl
theorem k_3000 : (3000 : Int32) = nI 3000 := rfl
theorem k_8192 : (8192 : Int32) = nI 8192 := rfl
def b2 (b : Bool) : Int32 := if b then 1 else 0
theorem b2_t : b2 true = 1 := rfl
theorem b2_f : b2 false = 0 := rfl
theorem b2_01 (b : Bool) : b2 b = 0 ∨ b2 b = 1 := by cases b <;> simp [b2]
theorem b2_0 {b : Bool} : b2 b = 0 ↔ b = false := by cases b <;> simp [b2]
theorem b2_1 {b : Bool} : b2 b = 1 ↔ b = true := by cases b <;> simp [b2]
theorem b2_P {P : Prop} [Decidable P] (h : P) : (1 : Int32) = b2 (decide P) := by simp [b2, h]
theorem b2_N {P : Prop} [Decidable P] (h : ¬ P) : (0 : Int32) = b2 (decide P) := by simp [b2, h]
/-- an int of a place, or -1 -/
def oI (g : Option Nat) : Int32 := match g with
  | none => -1
  | some n => nI n
theorem up_same {α : Type} (f : Nat → α) (k : Nat) (v : α) : va_up f k v k = v := va_up_self f k v
theorem upd_same (f : Nat → Int32) (k : Nat) (v : Int32) : upd f k v k = v := by simp [upd]
theorem upd_ne (f : Nat → Int32) {k j : Nat} (v : Int32) (h : j ≠ k) : upd f k v j = f j := by simp [upd, h]
