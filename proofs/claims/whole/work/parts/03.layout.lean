/-! the program logic: cells by number, their whole numbers as two tables of functions -/
abbrev xs_F : Type := Nat ⊕ Bool
abbrev xs_L : Type := (Nat × List xs_F) ⊕ (Nat × Nat × (Nat → Nat))
abbrev xI : Type := Nat → Nat → Int32
abbrev xJ : Type := Nat → Nat → Int64
abbrev xG : Type := (Nat → Nat) × va_G × (Nat → ClassId)
abbrev xM : Type := MethodName × ByteArray × Nat × Option FieldType × Room × Nat × Nat
abbrev xQT : Type := List Frame → Array Value → State → (Nat → Prop) → State → Prop
def xN : Nat := 105
def xtab : List xs_L := [.inl (8, [.inl 1, .inl 2, .inl 3, .inl 20, .inl 21, .inl 27, .inl 35, .inl 41, .inl 56]), .inr (3, 4, fun r => 4 + 2 * r), .inr (4, 8, fun i => 12 + i), .inr (0, 4, fun _ => 0), .inl (5, [.inl 5, .inr false, .inr false, .inr false]), .inr (0, 40, fun _ => 0), .inl (5, [.inl 7, .inr false, .inr false, .inr false]), .inr (0, 40, fun _ => 0), .inl (5, [.inl 9, .inr false, .inr false, .inr false]), .inr (0, 40, fun _ => 0), .inl (5, [.inl 11, .inr false, .inr false, .inr false]), .inr (0, 40, fun _ => 0), .inl (7, [.inr true, .inr false]), .inl (7, [.inr true, .inr false]), .inl (7, [.inr true, .inr false]), .inl (7, [.inr true, .inr false]), .inl (7, [.inr true, .inr false]), .inl (7, [.inr true, .inr false]), .inl (7, [.inr true, .inr false]), .inl (7, [.inr true, .inr false]), .inl (7, [.inr true, .inr false]), .inl (3, [.inl 22, .inl 23, .inl 24, .inl 25, .inl 26, .inr false, .inr false, .inr false, .inr false, .inr false]), .inr (0, 32, fun _ => 0), .inr (0, 32, fun _ => 0), .inr (0, 64, fun _ => 0), .inr (0, 64, fun _ => 0), .inr (0, 16, fun _ => 0), .inl (2, [.inl 28, .inl 29, .inl 30, .inl 31, .inl 32, .inl 33, .inl 34, .inr false]), .inr (0, 8192, fun _ => 0), .inr (0, 9, fun _ => 0), .inr (0, 9, fun _ => 0), .inr (0, 256, fun _ => 0), .inr (0, 256, fun _ => 0), .inr (0, 256, fun _ => 0), .inr (0, 256, fun _ => 0), .inl (1, [.inl 36, .inl 40, .inr false, .inr false]), .inl (0, [.inl 37, .inl 38, .inl 39, .inr false, .inr false]), .inr (1, 3000, fun _ => 0), .inr (0, 3000, fun _ => 0), .inr (0, 4096, fun _ => 0), .inr (1, 8, fun _ => 0), .inl (4, [.inl 42, .inl 46, .inl 50, .inl 51, .inl 52, .inl 53, .inl 54, .inl 55, .inr false, .inr false, .inr false, .inr false, .inr false]), .inl (0, [.inl 43, .inl 44, .inl 45, .inr false, .inr false]), .inr (1, 200, fun _ => 0), .inr (0, 200, fun _ => 0), .inr (0, 512, fun _ => 0), .inl (0, [.inl 47, .inl 48, .inl 49, .inr false, .inr false]), .inr (1, 200, fun _ => 0), .inr (0, 200, fun _ => 0), .inr (0, 512, fun _ => 0), .inr (0, 800, fun _ => 0), .inr (0, 200, fun _ => 0), .inr (0, 200, fun _ => 0), .inr (0, 200, fun _ => 0), .inr (0, 2800, fun _ => 0), .inl (7, [.inr true, .inr false]), .inl (6, [.inl 57, .inl 72, .inl 73, .inl 74, .inl 75, .inl 76, .inr false, .inr false, .inr false, .inr false]), .inl (4, [.inl 58, .inl 62, .inl 66, .inl 67, .inl 68, .inl 69, .inl 70, .inl 71, .inr false, .inr false, .inr false, .inr false, .inr false]), .inl (0, [.inl 59, .inl 60, .inl 61, .inr false, .inr false]), .inr (1, 200, fun _ => 0), .inr (0, 200, fun _ => 0), .inr (0, 512, fun _ => 0), .inl (0, [.inl 63, .inl 64, .inl 65, .inr false, .inr false]), .inr (1, 200, fun _ => 0), .inr (0, 200, fun _ => 0), .inr (0, 512, fun _ => 0), .inr (0, 800, fun _ => 0), .inr (0, 200, fun _ => 0), .inr (0, 200, fun _ => 0), .inr (0, 200, fun _ => 0), .inr (0, 2800, fun _ => 0), .inl (7, [.inr true, .inr false]), .inl (7, [.inr true, .inr false]), .inl (7, [.inr true, .inr false]), .inr (0, 20, fun _ => 0), .inr (0, 256, fun _ => 0), .inr (0, 200, fun _ => 0), .inl (9, [.inl 78, .inl 79, .inl 80, .inr false, .inr false, .inl 81, .inl 82, .inl 83, .inl 84, .inl 85, .inl 86, .inr false, .inl 87, .inr false, .inr false, .inl 88, .inr false, .inl 89, .inl 90, .inl 91, .inl 92, .inr false, .inr false, .inl 93, .inl 94, .inl 95, .inr false, .inr false, .inr false, .inl 96, .inl 97, .inl 98, .inl 99, .inr false, .inr false, .inl 100, .inl 101, .inl 102, .inr false, .inl 103, .inl 104, .inr false]), .inr (0, 4, fun _ => 0), .inr (0, 4, fun _ => 0), .inr (0, 160, fun _ => 0), .inr (0, 32, fun _ => 0), .inr (0, 32, fun _ => 0), .inr (0, 408, fun _ => 0), .inr (0, 12, fun _ => 0), .inr (2, 8, fun _ => 0), .inr (0, 16, fun _ => 0), .inr (0, 4, fun _ => 0), .inr (0, 16, fun _ => 0), .inr (0, 3216, fun _ => 0), .inr (0, 201, fun _ => 0), .inr (0, 804, fun _ => 0), .inr (0, 804, fun _ => 0), .inr (0, 201, fun _ => 0), .inr (0, 201, fun _ => 0), .inr (0, 3015, fun _ => 0), .inr (0, 4096, fun _ => 0), .inr (0, 256, fun _ => 0), .inr (0, 256, fun _ => 0), .inr (0, 256, fun _ => 0), .inr (0, 256, fun _ => 0), .inr (1, 3001, fun _ => 0), .inr (0, 8192, fun _ => 0), .inr (2, 16, fun _ => 0), .inr (0, 20, fun _ => 0)]
def lay (k : Nat) : xs_L := xtab.getD k (.inl (0, []))

theorem lay_0 : lay 0 = .inl (8, [.inl 1, .inl 2, .inl 3, .inl 20, .inl 21, .inl 27, .inl 35, .inl 41, .inl 56]) := rfl
theorem lay_1 : lay 1 = .inr (3, 4, fun r => 4 + 2 * r) := rfl
theorem lay_2 : lay 2 = .inr (4, 8, fun i => 12 + i) := rfl
theorem lay_3 : lay 3 = .inr (0, 4, fun _ => 0) := rfl
theorem lay_4 : lay 4 = .inl (5, [.inl 5, .inr false, .inr false, .inr false]) := rfl
theorem lay_5 : lay 5 = .inr (0, 40, fun _ => 0) := rfl
theorem lay_6 : lay 6 = .inl (5, [.inl 7, .inr false, .inr false, .inr false]) := rfl
theorem lay_7 : lay 7 = .inr (0, 40, fun _ => 0) := rfl
theorem lay_8 : lay 8 = .inl (5, [.inl 9, .inr false, .inr false, .inr false]) := rfl
theorem lay_9 : lay 9 = .inr (0, 40, fun _ => 0) := rfl
theorem lay_10 : lay 10 = .inl (5, [.inl 11, .inr false, .inr false, .inr false]) := rfl
theorem lay_11 : lay 11 = .inr (0, 40, fun _ => 0) := rfl
theorem lay_12 : lay 12 = .inl (7, [.inr true, .inr false]) := rfl
theorem lay_13 : lay 13 = .inl (7, [.inr true, .inr false]) := rfl
theorem lay_14 : lay 14 = .inl (7, [.inr true, .inr false]) := rfl
theorem lay_15 : lay 15 = .inl (7, [.inr true, .inr false]) := rfl
theorem lay_16 : lay 16 = .inl (7, [.inr true, .inr false]) := rfl
theorem lay_17 : lay 17 = .inl (7, [.inr true, .inr false]) := rfl
theorem lay_18 : lay 18 = .inl (7, [.inr true, .inr false]) := rfl
theorem lay_19 : lay 19 = .inl (7, [.inr true, .inr false]) := rfl
theorem lay_20 : lay 20 = .inl (7, [.inr true, .inr false]) := rfl
theorem lay_21 : lay 21 = .inl (3, [.inl 22, .inl 23, .inl 24, .inl 25, .inl 26, .inr false, .inr false, .inr false, .inr false, .inr false]) := rfl
theorem lay_22 : lay 22 = .inr (0, 32, fun _ => 0) := rfl
theorem lay_23 : lay 23 = .inr (0, 32, fun _ => 0) := rfl
theorem lay_24 : lay 24 = .inr (0, 64, fun _ => 0) := rfl
theorem lay_25 : lay 25 = .inr (0, 64, fun _ => 0) := rfl
theorem lay_26 : lay 26 = .inr (0, 16, fun _ => 0) := rfl
theorem lay_27 : lay 27 = .inl (2, [.inl 28, .inl 29, .inl 30, .inl 31, .inl 32, .inl 33, .inl 34, .inr false]) := rfl
theorem lay_28 : lay 28 = .inr (0, 8192, fun _ => 0) := rfl
theorem lay_29 : lay 29 = .inr (0, 9, fun _ => 0) := rfl
theorem lay_30 : lay 30 = .inr (0, 9, fun _ => 0) := rfl
theorem lay_31 : lay 31 = .inr (0, 256, fun _ => 0) := rfl
theorem lay_32 : lay 32 = .inr (0, 256, fun _ => 0) := rfl
theorem lay_33 : lay 33 = .inr (0, 256, fun _ => 0) := rfl
theorem lay_34 : lay 34 = .inr (0, 256, fun _ => 0) := rfl
theorem lay_35 : lay 35 = .inl (1, [.inl 36, .inl 40, .inr false, .inr false]) := rfl
theorem lay_36 : lay 36 = .inl (0, [.inl 37, .inl 38, .inl 39, .inr false, .inr false]) := rfl
theorem lay_37 : lay 37 = .inr (1, 3000, fun _ => 0) := rfl
theorem lay_38 : lay 38 = .inr (0, 3000, fun _ => 0) := rfl
theorem lay_39 : lay 39 = .inr (0, 4096, fun _ => 0) := rfl
theorem lay_40 : lay 40 = .inr (1, 8, fun _ => 0) := rfl
theorem lay_41 : lay 41 = .inl (4, [.inl 42, .inl 46, .inl 50, .inl 51, .inl 52, .inl 53, .inl 54, .inl 55, .inr false, .inr false, .inr false, .inr false, .inr false]) := rfl
theorem lay_42 : lay 42 = .inl (0, [.inl 43, .inl 44, .inl 45, .inr false, .inr false]) := rfl
theorem lay_43 : lay 43 = .inr (1, 200, fun _ => 0) := rfl
theorem lay_44 : lay 44 = .inr (0, 200, fun _ => 0) := rfl
theorem lay_45 : lay 45 = .inr (0, 512, fun _ => 0) := rfl
theorem lay_46 : lay 46 = .inl (0, [.inl 47, .inl 48, .inl 49, .inr false, .inr false]) := rfl
theorem lay_47 : lay 47 = .inr (1, 200, fun _ => 0) := rfl
theorem lay_48 : lay 48 = .inr (0, 200, fun _ => 0) := rfl
theorem lay_49 : lay 49 = .inr (0, 512, fun _ => 0) := rfl
theorem lay_50 : lay 50 = .inr (0, 800, fun _ => 0) := rfl
theorem lay_51 : lay 51 = .inr (0, 200, fun _ => 0) := rfl
theorem lay_52 : lay 52 = .inr (0, 200, fun _ => 0) := rfl
theorem lay_53 : lay 53 = .inr (0, 200, fun _ => 0) := rfl
theorem lay_54 : lay 54 = .inr (0, 2800, fun _ => 0) := rfl
theorem lay_55 : lay 55 = .inl (7, [.inr true, .inr false]) := rfl
theorem lay_56 : lay 56 = .inl (6, [.inl 57, .inl 72, .inl 73, .inl 74, .inl 75, .inl 76, .inr false, .inr false, .inr false, .inr false]) := rfl
theorem lay_57 : lay 57 = .inl (4, [.inl 58, .inl 62, .inl 66, .inl 67, .inl 68, .inl 69, .inl 70, .inl 71, .inr false, .inr false, .inr false, .inr false, .inr false]) := rfl
theorem lay_58 : lay 58 = .inl (0, [.inl 59, .inl 60, .inl 61, .inr false, .inr false]) := rfl
theorem lay_59 : lay 59 = .inr (1, 200, fun _ => 0) := rfl
theorem lay_60 : lay 60 = .inr (0, 200, fun _ => 0) := rfl
theorem lay_61 : lay 61 = .inr (0, 512, fun _ => 0) := rfl
theorem lay_62 : lay 62 = .inl (0, [.inl 63, .inl 64, .inl 65, .inr false, .inr false]) := rfl
theorem lay_63 : lay 63 = .inr (1, 200, fun _ => 0) := rfl
theorem lay_64 : lay 64 = .inr (0, 200, fun _ => 0) := rfl
theorem lay_65 : lay 65 = .inr (0, 512, fun _ => 0) := rfl
theorem lay_66 : lay 66 = .inr (0, 800, fun _ => 0) := rfl
theorem lay_67 : lay 67 = .inr (0, 200, fun _ => 0) := rfl
theorem lay_68 : lay 68 = .inr (0, 200, fun _ => 0) := rfl
theorem lay_69 : lay 69 = .inr (0, 200, fun _ => 0) := rfl
theorem lay_70 : lay 70 = .inr (0, 2800, fun _ => 0) := rfl
theorem lay_71 : lay 71 = .inl (7, [.inr true, .inr false]) := rfl
theorem lay_72 : lay 72 = .inl (7, [.inr true, .inr false]) := rfl
theorem lay_73 : lay 73 = .inl (7, [.inr true, .inr false]) := rfl
theorem lay_74 : lay 74 = .inr (0, 20, fun _ => 0) := rfl
theorem lay_75 : lay 75 = .inr (0, 256, fun _ => 0) := rfl
theorem lay_76 : lay 76 = .inr (0, 200, fun _ => 0) := rfl
theorem lay_77 : lay 77 = .inl (9, [.inl 78, .inl 79, .inl 80, .inr false, .inr false, .inl 81, .inl 82, .inl 83, .inl 84, .inl 85, .inl 86, .inr false, .inl 87, .inr false, .inr false, .inl 88, .inr false, .inl 89, .inl 90, .inl 91, .inl 92, .inr false, .inr false, .inl 93, .inl 94, .inl 95, .inr false, .inr false, .inr false, .inl 96, .inl 97, .inl 98, .inl 99, .inr false, .inr false, .inl 100, .inl 101, .inl 102, .inr false, .inl 103, .inl 104, .inr false]) := rfl
theorem lay_78 : lay 78 = .inr (0, 4, fun _ => 0) := rfl
theorem lay_79 : lay 79 = .inr (0, 4, fun _ => 0) := rfl
theorem lay_80 : lay 80 = .inr (0, 160, fun _ => 0) := rfl
theorem lay_81 : lay 81 = .inr (0, 32, fun _ => 0) := rfl
theorem lay_82 : lay 82 = .inr (0, 32, fun _ => 0) := rfl
theorem lay_83 : lay 83 = .inr (0, 408, fun _ => 0) := rfl
theorem lay_84 : lay 84 = .inr (0, 12, fun _ => 0) := rfl
theorem lay_85 : lay 85 = .inr (2, 8, fun _ => 0) := rfl
theorem lay_86 : lay 86 = .inr (0, 16, fun _ => 0) := rfl
theorem lay_87 : lay 87 = .inr (0, 4, fun _ => 0) := rfl
theorem lay_88 : lay 88 = .inr (0, 16, fun _ => 0) := rfl
theorem lay_89 : lay 89 = .inr (0, 3216, fun _ => 0) := rfl
theorem lay_90 : lay 90 = .inr (0, 201, fun _ => 0) := rfl
theorem lay_91 : lay 91 = .inr (0, 804, fun _ => 0) := rfl
theorem lay_92 : lay 92 = .inr (0, 804, fun _ => 0) := rfl
theorem lay_93 : lay 93 = .inr (0, 201, fun _ => 0) := rfl
theorem lay_94 : lay 94 = .inr (0, 201, fun _ => 0) := rfl
theorem lay_95 : lay 95 = .inr (0, 3015, fun _ => 0) := rfl
theorem lay_96 : lay 96 = .inr (0, 4096, fun _ => 0) := rfl
theorem lay_97 : lay 97 = .inr (0, 256, fun _ => 0) := rfl
theorem lay_98 : lay 98 = .inr (0, 256, fun _ => 0) := rfl
theorem lay_99 : lay 99 = .inr (0, 256, fun _ => 0) := rfl
theorem lay_100 : lay 100 = .inr (0, 256, fun _ => 0) := rfl
theorem lay_101 : lay 101 = .inr (1, 3001, fun _ => 0) := rfl
theorem lay_102 : lay 102 = .inr (0, 8192, fun _ => 0) := rfl
theorem lay_103 : lay 103 = .inr (2, 16, fun _ => 0) := rfl
theorem lay_104 : lay 104 = .inr (0, 20, fun _ => 0) := rfl
