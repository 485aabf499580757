/-! the machine as mathematics: letters K, states n, what a state writes, where it goes -/
abbrev xMac : Type := Nat × Nat × (Nat → Nat → Nat) × (Nat → Nat → Option Nat)
abbrev mK (M : xMac) : Nat := M.1
abbrev mN (M : xMac) : Nat := M.2.1
abbrev mWr (M : xMac) : Nat → Nat → Nat := M.2.2.1
abbrev mGo (M : xMac) : Nat → Nat → Option Nat := M.2.2.2
/-- the machine keeps its bounds -/
def mOk (M : xMac) : Prop := 2 ≤ mK M ∧ mK M ≤ 4 ∧ mN M ≤ 8 ∧ ∀ s x, s < mN M → x < mK M → mWr M s x < mK M ∧ ∀ g, mGo M s x = some g → g < 8
def mFair (M : xMac) (t : Nat) : Prop := ∀ x y, x < mK M → y < x → mWr M t x ≠ mWr M t y
/-- a set of states that is closed, all there, all fair -/
def mClo (M : xMac) (S : Nat → Prop) : Prop := ∀ t, S t → t < mN M ∧ mFair M t ∧ ∀ x, x < mK M → ∀ g, mGo M t x = some g → S g
def mBack (M : xMac) (s : Nat) : Prop := ∃ S : Nat → Prop, S s ∧ mClo M S
noncomputable def mB (M : xMac) (s : Nat) : Bool := @decide (mBack M s) (Classical.propDecidable _)
theorem mB_iff {M : xMac} {s : Nat} : mB M s = true ↔ mBack M s := by simp [mB]
theorem mB_f {M : xMac} {s : Nat} : mB M s = false ↔ ¬ mBack M s := by simp [mB]
def mWhole (M : xMac) : Prop := ∀ s x, s < mN M → x < mK M → ∀ g, mGo M s x = some g → g < mN M
noncomputable def mW (M : xMac) : Bool := @decide (mWhole M) (Classical.propDecidable _)
theorem mW_iff {M : xMac} : mW M = true ↔ mWhole M := by simp [mW]
theorem mW_f {M : xMac} : mW M = false ↔ ¬ mWhole M := by simp [mW]
theorem mBack.lt {M : xMac} {s : Nat} (h : mBack M s) : s < mN M := by
  obtain ⟨S, h1, h2⟩ := h
  exact (h2 s h1).1
theorem mBack.fair {M : xMac} {s : Nat} (h : mBack M s) : mFair M s := by
  obtain ⟨S, h1, h2⟩ := h
  exact (h2 s h1).2.1
theorem mBack.go {M : xMac} {s x g : Nat} (h : mBack M s) (hx : x < mK M) (hg : mGo M s x = some g) : mBack M g := by
  obtain ⟨S, h1, h2⟩ := h
  exact ⟨S, (h2 s h1).2.2 x hx g hg, h2⟩
/-- the tokens, as marks: twice the state, and one more for the way back -/
noncomputable def mMarks (M : xMac) : List Nat := (List.range (mN M)).flatMap (fun s => if mB M s then [2 * s, 2 * s + 1] else [2 * s])
/-- a mark that there is -/
def mOkm (M : xMac) (m : Nat) : Prop := m / 2 < mN M ∧ (m % 2 = 1 → mBack M (m / 2))
def opp (m : Nat) : Nat := if m % 2 = 0 then m + 1 else m - 1
def tok (m : Nat) : Int32 := if m % 2 = 0 then nI (m / 2 + 1) else - nI (m / 2 + 1)
/-- the letter that a fair state brings to y -/
def mInv (M : xMac) (s y : Nat) : Nat := ((List.range (mK M)).find? (fun x => mWr M s x == y)).getD 0
/-- what a mark writes, and to which mark it goes -/
def mw (M : xMac) (m x : Nat) : Nat := if m % 2 = 0 then mWr M (m / 2) x else mInv M (m / 2) x
def mg (M : xMac) (m x : Nat) : Option Nat := if m % 2 = 0 then (mGo M (m / 2) x).map (fun g => 2 * g) else (mGo M (m / 2) (mInv M (m / 2) x)).map (fun g => 2 * g + 1)
/-- words: lists of marks, the first one first -/
def wpush (w : List Nat) (m : Nat) : List Nat := if w.getLast? = some (opp m) then w.dropLast else w ++ [m]
def wpushO (w : List Nat) (o : Option Nat) : List Nat := match o with
  | none => w
  | some m => wpush w m
def wapp (a b : List Nat) : List Nat := b.foldl wpush a
def wRed (w : List Nat) : Prop := ∀ i, i + 1 < w.length → w[i + 1]? ≠ (w[i]?).map opp
/-- the part at a letter, and the letter that comes out -/
def wpartF (M : xMac) (s : Nat × List Nat) (m : Nat) : Nat × List Nat := (mw M m s.1, wpushO s.2 (mg M m s.1))
def wpartL (M : xMac) (w : List Nat) (x : Nat) : Nat × List Nat := w.foldl (wpartF M) (x, [])
def wpart (M : xMac) (w : List Nat) (x : Nat) : List Nat := (wpartL M w x).2
def wout (M : xMac) (w : List Nat) (x : Nat) : Nat := (wpartL M w x).1
/-- a word whose marks are all there -/
def wOk (M : xMac) (w : List Nat) : Prop := ∀ m ∈ w, mOkm M m
/-- what a mark makes of a row -/
def mact (M : xMac) : Option Nat → List Nat → List Nat
  | _, [] => []
  | none, r => r
  | some m, x :: r => mw M m x :: mact M (mg M m x) r
def wact (M : xMac) (w : List Nat) (r : List Nat) : List Nat := w.foldl (fun r m => mact M (some m) r) r
def rOk (M : xMac) (r : List Nat) : Prop := ∀ x ∈ r, x < mK M
/-- the whole state: sheets, machine, words -/
abbrev xSh : Type := Nat → Option (Nat × Nat × (Nat → Int32))
abbrev xSt : Type := xSh × xMac × (Nat → List Nat)
def casts (kd : Nat) (v : Int32) : Int32 := if kd = 0 then v.toInt8.toInt32 else if kd = 1 then v.toInt16.toInt32 else v
/-- an int that is a number below n -/
def ix (x : Int32) (n : Nat) : Option Nat := if 0 ≤ x.toInt ∧ x.toInt < n then some x.toInt.toNat else none
theorem ix_some {x : Int32} {n j : Nat} (h : ix x n = some j) : j < n ∧ x = nI j := by
  unfold ix at h
  split at h
  · rename_i hh
    cases h
    refine ⟨by omega, ?_⟩
    apply Int32.toInt_inj.mp
    have := Int32.toInt_lt x
    rw [nI_toInt (by omega)]
    omega
  · cases h
theorem ix_none {x : Int32} {n : Nat} (h : ix x n = none) : x < 0 ∨ (n : Int) ≤ x.toInt := by
  unfold ix at h
  split at h
  · cases h
  · rename_i hh
    rw [Int32.lt_iff_toInt_lt]
    simp
    omega
theorem ix_nI {n j : Nat} (h : j < n) (hn : n < 2 ^ 31) : ix (nI j) n = some j := by
  unfold ix
  rw [nI_toInt (by omega), if_pos (by omega)]
  simp
/-- row numbers -/
def rowNum (r : List Nat) : Nat := r.foldl (fun a x => 4 * a + x) 1
