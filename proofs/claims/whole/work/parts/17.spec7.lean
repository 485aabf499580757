-- marks and tokens
theorem opp_opp (m : Nat) : opp (opp m) = m := by unfold opp; split <;> split <;> omega
theorem opp_div (m : Nat) : opp m / 2 = m / 2 := by unfold opp; split <;> omega
theorem opp_lt {m n : Nat} (h : m < 2 * n) : opp m < 2 * n := by unfold opp; split <;> omega
theorem tok_toInt {m : Nat} (h : m < 1000) : (tok m).toInt = if m % 2 = 0 then ((m / 2 + 1 : Nat) : Int) else -((m / 2 + 1 : Nat) : Int) := by
  unfold tok
  split
  · rw [nI_toInt (by omega)]
  · rw [show -nI (m / 2 + 1) = nI 0 - nI (m / 2 + 1) by rw [← k_0]; grind, pk_sub_toInt (by decide) (by omega)]
    simp
theorem tok_opp (m : Nat) : tok (opp m) = -tok m := by
  unfold tok opp
  split <;> rename_i h
  · rw [if_neg (by omega), show (m + 1) / 2 = m / 2 by omega]
  · rw [if_pos (by omega), show (m - 1) / 2 = m / 2 by omega]
    grind
theorem tok_inj {a b : Nat} (ha : a < 1000) (hb : b < 1000) (h : tok a = tok b) : a = b := by
  have h1 := congrArg Int32.toInt h
  rw [tok_toInt ha, tok_toInt hb] at h1
  split at h1 <;> split at h1 <;> omega
theorem tok_ne0 {a : Nat} (ha : a < 1000) : ¬ tok a = 0 := by
  intro h
  have h1 := congrArg Int32.toInt h
  rw [tok_toInt ha, ti_0] at h1
  split at h1 <;> omega
theorem tok_pos {a : Nat} (ha : a < 1000) : 0 < tok a ↔ a % 2 = 0 := by
  rw [lt_toInt, ti_0, tok_toInt ha]
  split <;> omega
-- words
theorem wpush_len (w : List Nat) (m : Nat) : (wpush w m).length ≤ w.length + 1 := by
  unfold wpush
  split <;> simp <;> omega
theorem wpush_len' (w : List Nat) (m : Nat) : w.length ≤ (wpush w m).length + 1 := by
  unfold wpush
  split <;> simp <;> omega
theorem wpush_mem {w : List Nat} {m q : Nat} (h : q ∈ wpush w m) : q ∈ w ∨ q = m := by
  unfold wpush at h
  split at h
  · exact Or.inl (List.dropLast_subset _ h)
  · simpa using h
theorem wOk.push {M : xMac} {w : List Nat} {m : Nat} (h : wOk M w) (hm : mOkm M m) : wOk M (wpush w m) := fun q hq => by
  rcases wpush_mem hq with h1 | rfl
  · exact h q h1
  · exact hm
theorem wRed.nil : wRed [] := fun i h => by simp at h
theorem wRed.push {w : List Nat} (h : wRed w) (m : Nat) : wRed (wpush w m) := by
  unfold wpush
  split
  · intro i hi
    rw [List.length_dropLast] at hi
    rw [List.getElem?_dropLast, List.getElem?_dropLast, if_pos (by omega), if_pos (by omega)]
    exact h i (by omega)
  · rename_i hl
    intro i hi
    rw [List.length_append, List.length_singleton] at hi
    by_cases e : i + 1 = w.length
    · rw [List.getLast?_eq_getElem?] at hl
      rw [List.getElem?_append_right (by omega), List.getElem?_append_left (by omega), e, Nat.sub_self]
      intro q
      apply hl
      rw [← e, Nat.add_sub_cancel]
      cases hw : w[i]? with
      | none => rw [hw] at q; simp at q
      | some a =>
        rw [hw] at q
        simp at q
        rw [q, opp_opp]
    · rw [List.getElem?_append_left (by omega), List.getElem?_append_left (by omega)]
      exact h i (by omega)
theorem wapp_len (b : List Nat) : ∀ a : List Nat, (wapp a b).length ≤ a.length + b.length := by
  induction b with
  | nil => intro a; simp [wapp]
  | cons m b IH =>
    intro a
    have h1 := IH (wpush a m)
    have h2 := wpush_len a m
    unfold wapp at h1 ⊢
    rw [List.foldl_cons, List.length_cons]
    omega
theorem wapp_red (b : List Nat) : ∀ a : List Nat, wRed a → wRed (wapp a b) := by
  induction b with
  | nil => intro a h; exact h
  | cons m b IH => intro a h; exact IH _ (h.push m)
theorem wapp_ok {M : xMac} (b : List Nat) : ∀ a : List Nat, wOk M a → wOk M b → wOk M (wapp a b) := by
  induction b with
  | nil => intro a h _; exact h
  | cons m b IH => intro a h hb; exact IH _ (h.push (hb m List.mem_cons_self)) (fun q hq => hb q (List.mem_cons_of_mem _ hq))
theorem wapp_snoc (a b : List Nat) (m : Nat) : wapp a (b ++ [m]) = wpush (wapp a b) m := by simp [wapp, List.foldl_append]
theorem wOk.lt {M : xMac} {w : List Nat} (h : wOk M w) (hM : mN M ≤ 8) {m : Nat} (hm : m ∈ w) : m < 16 := by
  have := (h m hm).1
  omega
-- what a method of the reference may change of the words
def mwx (W : List Nat) (I I' : xI) : Prop := ∀ w, w < 12 → w ∉ W → I' 84 w = I 84 w ∧ ∀ i, i < 34 → I' 83 (34 * w + i) = I 83 (34 * w + i)
theorem mwx.rf {W : List Nat} {I : xI} : mwx W I I := fun _ _ _ => ⟨rfl, fun _ _ => rfl⟩
theorem mwx.tr {W : List Nat} {I I1 I2 : xI} (h1 : mwx W I I1) (h2 : mwx W I1 I2) : mwx W I I2 := fun w hw hW => ⟨(h2 w hw hW).1.trans (h1 w hw hW).1, fun i hi => ((h2 w hw hW).2 i hi).trans ((h1 w hw hW).2 i hi)⟩
theorem mwx.mono {W W' : List Nat} {I I' : xI} (h : mwx W I I') (hW : ∀ w ∈ W, w ∈ W') : mwx W' I I' := fun w hw hn => h w hw (fun q => hn (hW w q))
theorem mwx.of {W : List Nat} {I I' : xI} (h83 : I' 83 = I 83) (h84 : I' 84 = I 84) : mwx W I I' := fun w _ _ => ⟨by rw [h84], fun i _ => by rw [h83]⟩
theorem mwx.wd {W : List Nat} {I I' : xI} (h : mwx W I I') {w : Nat} {ws : List Nat} (hw : w < 12) (hn : w ∉ W) (hl : ws.length ≤ 34) (h0 : mWd I w ws) : mWd I' w ws := ⟨(h w hw hn).1.trans h0.1, fun i hi => ((h w hw hn).2 i (by omega)).trans (h0.2 i hi)⟩
theorem mSp.keep {W : List Nat} {I I' : xI} {M : xMac} {sp : Nat → List Nat} (h : mSp I M sp) (hx : mwx W I I') (hW : ∀ w ∈ W, 8 ≤ w) : mSp I' M sp := fun w hw => ⟨hx.wd (by omega) (fun q => by have := hW w q; omega) (by have := (h w hw).2.1; omega) (h w hw).1, (h w hw).2⟩
theorem mSp.set {W : List Nat} {I I' : xI} {M : xMac} {sp : Nat → List Nat} (h : mSp I M sp) {to : Nat} (hx : mwx (to :: W) I I') (hW : ∀ w ∈ W, 8 ≤ w) {w' : List Nat} (hw : mWd I' to w') (hg : wGood M w') : mSp I' M (va_up sp to w') := by
  intro w hw8
  by_cases e : w = to
  · subst e
    rw [up_same]
    exact ⟨hw, hg⟩
  · rw [va_up_ne _ _ e]
    refine ⟨hx.wd (by omega) (fun q => ?_) (by have := (h w hw8).2.1; omega) (h w hw8).1, (h w hw8).2⟩
    rcases List.mem_cons.mp q with q | q
    · exact e q
    · have := hW w q; omega
-- what the calls answer: words
def t2m (t : Int32) : Nat := if 0 < t.toInt then 2 * (t.toInt.toNat - 1) else 2 * ((-t.toInt).toNat - 1) + 1
def ptoks (a b c d : Int32) : List Int32 := [a, b, c, d].takeWhile (fun t => t != 0)
noncomputable def sp_put (S : xSt) (spot a b c d : Int32) : Int32 × xSt := match ix spot 8 with
  | none => (-1, S)
  | some w => if (ptoks a b c d).all (fun t => decide (-(mN S.2.1 : Int) ≤ t.toInt ∧ t.toInt ≤ mN S.2.1)) = false then (-1, S)
    else if (ptoks a b c d).any (fun t => decide (t.toInt < 0) && !mB S.2.1 (t2m t / 2)) = true then (-6, S)
    else if 16 < (wapp (S.2.2 w) ((ptoks a b c d).map t2m)).length then (-2, S)
    else (nI (wapp (S.2.2 w) ((ptoks a b c d).map t2m)).length, (S.1, S.2.1, va_up S.2.2 w (wapp (S.2.2 w) ((ptoks a b c d).map t2m))))
def sp_wipe (S : xSt) (spot : Int32) : Int32 × xSt := match ix spot 8 with
  | none => (-1, S)
  | some w => (nI (S.2.2 w).length, (S.1, S.2.1, va_up S.2.2 w []))
def sp_size (S : xSt) (spot : Int32) : Int32 := match ix spot 8 with
  | none => -1
  | some w => nI (S.2.2 w).length
def sp_token (S : xSt) (spot i : Int32) : Int32 := match ix spot 8 with
  | none => 0
  | some w => match ix i (S.2.2 w).length with
    | none => 0
    | some i => tok ((S.2.2 w).getD i 0)
def sp_times (S : xSt) (a b to : Int32) : Int32 × xSt := match ix a 8, ix b 8, ix to 8 with
  | some a, some b, some to => if 16 < (wapp (S.2.2 a) (S.2.2 b)).length then (-2, S) else (nI (wapp (S.2.2 a) (S.2.2 b)).length, (S.1, S.2.1, va_up S.2.2 to (wapp (S.2.2 a) (S.2.2 b))))
  | _, _, _ => (-1, S)
noncomputable def wBk (M : xMac) (w : List Nat) : Bool := w.all (fun m => mB M (m / 2))
noncomputable def sp_turn (S : xSt) (a to : Int32) : Int32 × xSt := match ix a 8, ix to 8 with
  | some a, some to => if wBk S.2.1 (S.2.2 a) = false then (-6, S) else (nI (wapp [] ((S.2.2 a).reverse.map opp)).length, (S.1, S.2.1, va_up S.2.2 to (wapp [] ((S.2.2 a).reverse.map opp))))
  | _, _ => (-1, S)
