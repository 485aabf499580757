-- ints as sets of bits
def tb (x : Int32) (i : Nat) : Bool := x.toBitVec.getLsbD i
theorem tb_and (x y : Int32) (i : Nat) : tb (x &&& y) i = (tb x i && tb y i) := by simp [tb]
theorem tb_or (x y : Int32) (i : Nat) : tb (x ||| y) i = (tb x i || tb y i) := by simp [tb]
theorem tb_xor (x y : Int32) (i : Nat) : tb (x ^^^ y) i = (tb x i ^^ tb y i) := by simp [tb]
theorem tb_0 (i : Nat) : tb 0 i = false := by simp [tb]
theorem tb_m1' : ∀ i : Fin 32, tb (-1) i.1 = true := by decide
theorem tb_m1 {i : Nat} (h : i < 32) : tb (-1) i = true := tb_m1' ⟨i, h⟩
theorem tb_not (x : Int32) {i : Nat} (h : i < 32) : tb (x ^^^ -1) i = !tb x i := by rw [tb_xor, tb_m1 h]; simp
theorem tb_shl' : ∀ g : Fin 9, ∀ i : Fin 32, tb ((1 : Int32) <<< (nI g.1 &&& 31)) i.1 = (i.1 == g.1) := by decide +kernel
theorem tb_shl {g i : Nat} (hg : g < 9) (hi : i < 32) : tb ((1 : Int32) <<< (nI g &&& 31)) i = (i == g) := tb_shl' ⟨g, hg⟩ ⟨i, hi⟩
theorem tb_low' : ∀ g : Fin 9, ∀ i : Fin 32, tb ((1 : Int32) <<< (nI g.1 &&& 31) - 1) i.1 = decide (i.1 < g.1) := by decide +kernel
theorem tb_low {g i : Nat} (hg : g < 9) (hi : i < 32) : tb ((1 : Int32) <<< (nI g &&& 31) - 1) i = decide (i < g) := tb_low' ⟨g, hg⟩ ⟨i, hi⟩
theorem tb_ext {x y : Int32} (h : ∀ i, i < 32 → tb x i = tb y i) : x = y := by
  apply Int32.toBitVec_inj.mp
  apply BitVec.eq_of_getLsbD_eq
  intro i hi
  exact h i hi
theorem tb_z {x : Int32} : x = 0 ↔ ∀ i, i < 32 → tb x i = false := ⟨fun h i _ => by rw [h, tb_0], fun h => tb_ext (fun i hi => by rw [h i hi, tb_0])⟩
theorem tb_smod : ∀ s : Fin 8, ((nI s.1 &&& 31).toBitVec.smod 32) = BitVec.ofNat 32 s.1 := by decide
theorem tb_shr (x : Int32) {s : Nat} (hs : s < 8) : tb (x >>> (nI s &&& 31)) 0 = tb x s := by
  unfold tb
  rw [Int32.toBitVec_shiftRight, tb_smod ⟨s, hs⟩, BitVec.sshiftRight_eq', BitVec.getLsbD_sshiftRight]
  have e : (BitVec.ofNat 32 s).toNat = s := by rw [BitVec.toNat_ofNat]; omega
  simp only [e]
  simp
  omega
theorem tb_1' : ∀ i : Fin 32, tb 1 i.1 = (i.1 == 0) := by decide
theorem tb_back (x : Int32) {s : Nat} (hs : s < 8) : (x >>> (nI s &&& 31)) &&& 1 = 1 ↔ tb x s = true := by
  rw [← tb_shr x hs]
  generalize x >>> (nI s &&& 31) = y
  constructor
  · intro h
    have := congrArg (fun z => tb z 0) h
    simp only [tb_and] at this
    rw [show tb 1 0 = true by decide, Bool.and_true] at this
    exact this
  · intro h
    refine tb_ext (fun i hi => ?_)
    rw [tb_and, tb_1' ⟨i, hi⟩]
    by_cases e : i = 0
    · subst e; rw [h]; rfl
    · rw [beq_eq_false_iff_ne.mpr e, Bool.and_false]
