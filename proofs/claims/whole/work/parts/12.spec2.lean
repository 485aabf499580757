theorem in_ix {x : Int32} {hi : Int64} {n : Nat} (h : hi.toInt = (n : Int) - 1) : decide ((0 : Int64) ≤ x.toInt64 ∧ x.toInt64 ≤ hi) = (ix x n).isSome := by
  unfold ix
  simp only [Int64.le_iff_toInt_le, Int32.toInt_toInt64, h]
  split
  · rename_i hh
    simp
    omega
  · rename_i hh
    simp
    intro q
    omega
theorem is_n {α : Type} {o : Option α} (h : b2 o.isSome = 0) : o = none := by
  cases o with
  | none => rfl
  | some a => simp [b2] at h
theorem is_s {α : Type} {o : Option α} (h : ¬ b2 o.isSome = 0) : ∃ a, o = some a := by
  cases o with
  | none => simp [b2] at h
  | some a => exact ⟨a, rfl⟩
theorem ix_eq {x : Int32} {n j : Nat} (h : j < n) (hx : x = nI j) (hn : n < 2 ^ 31) : ix x n = some j := by rw [hx]; exact ix_nI h hn
-- the reference's picture of the state
def mS1 (I : xI) (r : Nat) (o : Option (Nat × Nat × (Nat → Int32))) : Prop := match o with
  | none => I 79 r = -1
  | some q => q.1 < 3 ∧ q.2.1 ≤ 40 ∧ I 78 r = nI q.1 ∧ I 79 r = nI q.2.1 ∧ ∀ i, i < q.2.1 → I 80 (40 * r + i) = q.2.2 i
def mSh (I : xI) (sh : xSh) : Prop := ∀ r, r < 4 → mS1 I r (sh r)
def mMach (I : xI) (M : xMac) : Prop := mOk M ∧ I 77 3 = nI (mK M) ∧ I 77 4 = nI (mN M) ∧ ∀ s x, s < mN M → x < mK M → I 81 (4 * s + x) = nI (mWr M s x) ∧ I 82 (4 * s + x) = oI (mGo M s x)
def mWd (I : xI) (w : Nat) (ws : List Nat) : Prop := I 84 w = nI ws.length ∧ ∀ i (h : i < ws.length), I 83 (34 * w + i) = tok ws[i]
/-- a word of a spot: at most 16 marks, reduced, each is there -/
def wGood (M : xMac) (w : List Nat) : Prop := w.length ≤ 16 ∧ wRed w ∧ wOk M w
def mSp (I : xI) (M : xMac) (sp : Nat → List Nat) : Prop := ∀ w, w < 8 → mWd I w (sp w) ∧ wGood M (sp w)
def mIv (I : xI) (S : xSt) : Prop := mSh I S.1 ∧ mMach I S.2.1 ∧ mSp I S.2.1 S.2.2
def mfr (I : xI) (J : xJ) (I' : xI) (J' : xJ) : Prop := ∀ a, a < 77 → I' a = I a ∧ J' a = J a
theorem mfr.rf {I : xI} {J : xJ} : mfr I J I J := fun _ _ => ⟨rfl, rfl⟩
theorem mMach.cg {I I' : xI} {M : xMac} (h : mMach I M) (h3 : I' 77 3 = I 77 3) (h4 : I' 77 4 = I 77 4) (h81 : I' 81 = I 81) (h82 : I' 82 = I 82) : mMach I' M := by
  obtain ⟨a, b, c, d⟩ := h
  refine ⟨a, by rw [h3]; exact b, by rw [h4]; exact c, fun s x hs hx => ?_⟩
  rw [h81, h82]
  exact d s x hs hx
theorem mSp.cg {I I' : xI} {M : xMac} {sp : Nat → List Nat} (h : mSp I M sp) (h83 : I' 83 = I 83) (h84 : I' 84 = I 84) : mSp I' M sp := by
  intro w hw
  obtain ⟨⟨a, b⟩, c⟩ := h w hw
  refine ⟨⟨by rw [h84]; exact a, fun i hi => by rw [h83]; exact b i hi⟩, c⟩
theorem mSh.cg {I I' : xI} {sh : xSh} (h : mSh I sh) (h78 : I' 78 = I 78) (h79 : I' 79 = I 79) (h80 : I' 80 = I 80) : mSh I' sh := by
  intro r hr
  have := h r hr
  unfold mS1 at this ⊢
  rw [h78, h79, h80]
  exact this
-- what the calls answer: sheets
def sp_sheet (S : xSt) (r kd n : Int32) : Int32 × xSt := match ix r 4, ix kd 3 with
  | some r, some kd => if n < 0 then (-4, S) else match ix n 41 with
    | none => (-1, S)
    | some n => (1, (va_up S.1 r (some (kd, n, fun _ => 0)), S.2))
  | _, _ => (-1, S)
def sp_cell (S : xSt) (r i v : Int32) : Int32 × xSt := match ix r 4 with
  | none => (-1, S)
  | some r => match S.1 r with
    | none => (-3, S)
    | some q => match ix i q.2.1 with
      | none => (-1, S)
      | some i => (1, (va_up S.1 r (some (q.1, q.2.1, upd q.2.2 i (casts q.1 v))), S.2))
def sp_told (S : xSt) (r i : Int32) : Int32 := match ix r 4 with
  | none => -2147483648
  | some r => match S.1 r with
    | none => -2147483648
    | some q => match ix i q.2.1 with
      | none => -2147483648
      | some i => q.2.2 i
def sp_lose (S : xSt) (r : Int32) : Int32 × xSt := match ix r 4 with
  | none => (-1, S)
  | some r => match S.1 r with
    | none => (-3, S)
    | some _ => (1, (va_up S.1 r none, S.2))
