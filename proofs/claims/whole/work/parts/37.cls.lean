/-- two words make the same of all rows of n letters -/
def wEqn (M : xMac) : Nat → List Nat → List Nat → Prop
  | 0, _, _ => True
  | n + 1, a, b => ∀ x, x < mK M → wout M a x = wout M b x ∧ wEqn M n (wpart M a x) (wpart M b x)
theorem wEqn.rf {M : xMac} : ∀ (n : Nat) (a : List Nat), wEqn M n a a
  | 0, _ => trivial
  | n + 1, _ => fun _ _ => ⟨rfl, wEqn.rf n _⟩
theorem wEqn.sy {M : xMac} : ∀ {n : Nat} {a b : List Nat}, wEqn M n a b → wEqn M n b a
  | 0, _, _, _ => trivial
  | _ + 1, _, _, h => fun x hx => ⟨(h x hx).1.symm, (h x hx).2.sy⟩
theorem wEqn.tr {M : xMac} : ∀ {n : Nat} {a b c : List Nat}, wEqn M n a b → wEqn M n b c → wEqn M n a c
  | 0, _, _, _, _, _ => trivial
  | _ + 1, _, _, _, h, k => fun x hx => ⟨(h x hx).1.trans (k x hx).1, (h x hx).2.tr (k x hx).2⟩
theorem wEqn.pred {M : xMac} : ∀ {n : Nat} {a b : List Nat}, wEqn M (n + 1) a b → wEqn M n a b
  | 0, _, _, _ => trivial
  | _ + 1, _, _, h => fun x hx => ⟨(h x hx).1, (h x hx).2.pred⟩
noncomputable def wE (M : xMac) (n : Nat) (a b : List Nat) : Bool := @decide (wEqn M n a b) (Classical.propDecidable _)
theorem wE_iff {M : xMac} {n : Nat} {a b : List Nat} : wE M n a b = true ↔ wEqn M n a b := by simp [wE]
/-- the first of its class -/
noncomputable def wFst (M : xMac) (hs : List (List Nat)) (n h : Nat) : Bool := @decide (∀ g, g < h → ¬ wEqn M n (hs.getD g []) (hs.getD h [])) (Classical.propDecidable _)
theorem wFst_iff {M : xMac} {hs : List (List Nat)} {n h : Nat} : wFst M hs n h = true ↔ ∀ g, g < h → ¬ wEqn M n (hs.getD g []) (hs.getD h []) := by simp [wFst]
noncomputable def ncl (M : xMac) (hs : List (List Nat)) (n : Nat) : Nat := cnt (wFst M hs n) hs.length
theorem ncl_mono (M : xMac) (hs : List (List Nat)) (n : Nat) : ncl M hs n ≤ ncl M hs (n + 1) := cnt_mono (fun t _ h => wFst_iff.mpr (fun g hg q => wFst_iff.mp h g hg q.pred))
theorem ncl_le (M : xMac) (hs : List (List Nat)) (n : Nat) : ncl M hs n ≤ hs.length := cnt_le _ _
theorem ncl_0 (M : xMac) (hs : List (List Nat)) : ncl M hs 0 = if hs.length = 0 then 0 else 1 := by
  unfold ncl
  have key : ∀ k, cnt (wFst M hs 0) (k + 1) = 1 := by
    intro k
    induction k with
    | zero =>
      unfold cnt cnt
      rw [wFst_iff.mpr (fun g hg => by omega)]
      rfl
    | succ k IH =>
      unfold cnt
      rw [IH]
      have : wFst M hs 0 (k + 1) = false := by
        cases hq : wFst M hs 0 (k + 1) with
        | false => rfl
        | true => exact absurd trivial (wFst_iff.mp hq 0 (by omega))
      rw [this]
      rfl
  cases hl : hs.length with
  | zero => rfl
  | succ k => rw [key k]; rfl
/-- classes by numbers -/
def isCls (M : xMac) (hs : List (List Nat)) (n : Nat) (f : Nat → Int32) (c : Nat → Nat) (m : Nat) : Prop := (∀ h, h < m → f h = nI (c h) ∧ c h < cnt (wFst M hs n) m) ∧ ∀ g h, g < m → h < m → (c g = c h ↔ wEqn M n (hs.getD g []) (hs.getD h []))
def mCl (I : xI) (M : xMac) (hs : List (List Nat)) (n : Nat) : Prop := ∃ c, isCls M hs n (I 93) c hs.length
theorem cnt_succ_le (c : Nat → Bool) (n : Nat) : cnt c n ≤ cnt c (n + 1) := by
  show _ ≤ cnt c n + cond (c n) 1 0
  omega
theorem getD_lt {hs : List (List Nat)} {h : Nat} (hh : h < hs.length) : hs.getD h [] = hs[h] := by
  rw [List.getD_eq_getElem?_getD, List.getElem?_eq_getElem hh]
  rfl
theorem getD_at {hs : List (List Nat)} {h : Nat} {w : List Nat} (hh : hs[h]? = some w) : hs.getD h [] = w := by
  rw [List.getD_eq_getElem?_getD, hh]
  rfl
