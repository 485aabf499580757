section M27
variable {G : xG} {I : xI} {J : xJ}
noncomputable def sp_short (S : xSt) (m : Int32) : Int32 := match ix m 6 with
  | none => -1
  | some m => if mW S.2.1 = false then -5 else if 200 < (wW S.2.1 m).length then -7 else 0
theorem wW_le {M : xMac} {n : Nat} : ∀ {m : Nat}, n ≤ m → ∃ e, wW M m = wW M n ++ e
  | m, h => by
    obtain ⟨k, rfl⟩ : ∃ k, m = n + k := ⟨m - n, by omega⟩
    induction k with
    | zero => exact ⟨[], by simp⟩
    | succ k IH =>
      obtain ⟨e, he⟩ := IH (by omega)
      refine ⟨e ++ wlay M (n + k + 1), ?_⟩
      show wW M (n + k) ++ wlay M (n + k + 1) = _
      rw [he, List.append_assoc]
/-- the words of n marks that come of the first ones of n - 1 marks and of some marks behind the next one -/
noncomputable def wHalf (M : xMac) (n k t : Nat) : List (List Nat) := wW M n ++ ((wlay M n).take k).flatMap (wx M) ++ (((mMarks M).take t).filter (fun q => !(((wlay M n).getD k []).getLast? == some (opp q)))).map (fun q => (wlay M n).getD k [] ++ [q])
theorem wHalf_0 (M : xMac) (n : Nat) : wHalf M n 0 0 = wW M n := by simp [wHalf]
theorem wHalf_end {M : xMac} {n k : Nat} (hk : k < (wlay M n).length) : wHalf M n k (mMarks M).length = wHalf M n (k + 1) 0 := by
  unfold wHalf
  rw [List.take_length, List.take_succ_eq_append_getElem hk, List.flatMap_append, getD_lt hk]
  simp [wx]
theorem wHalf_all (M : xMac) (n : Nat) : wHalf M n (wlay M n).length 0 = wW M (n + 1) := by
  unfold wHalf
  rw [List.take_length]
  simp [wW, wlay]
theorem wHalf_step {M : xMac} {n k t : Nat} (ht : t < (mMarks M).length) : wHalf M n k (t + 1) = if ((wlay M n).getD k []).getLast? = some (opp (mMarks M)[t]) then wHalf M n k t else wHalf M n k t ++ [(wlay M n).getD k [] ++ [(mMarks M)[t]]] := by
  unfold wHalf
  rw [List.take_succ_eq_append_getElem ht, List.filter_append]
  generalize (wlay M n).getD k [] = w0
  by_cases h : w0.getLast? = some (opp (mMarks M)[t])
  · rw [if_pos h]
    simp [h]
  · rw [if_neg h]
    simp [h]
theorem wHalf_pre {M : xMac} {n : Nat} : ∀ {d k t : Nat}, d = (wlay M n).length - k → k ≤ (wlay M n).length → t ≤ (mMarks M).length → (k = (wlay M n).length → t = 0) → ∃ e, wW M (n + 1) = wHalf M n k t ++ e := by
  intro d
  induction d with
  | zero =>
    intro k t hd hk ht h0
    have hkk : k = (wlay M n).length := by omega
    rw [h0 hkk, hkk, wHalf_all]
    exact ⟨[], by simp⟩
  | succ d IH =>
    intro k t hd hk ht h0
    have hkl : k < (wlay M n).length := by omega
    have key : ∀ s t, s = (mMarks M).length - t → t ≤ (mMarks M).length → ∃ e, wW M (n + 1) = wHalf M n k t ++ e := by
      intro s
      induction s with
      | zero =>
        intro t hs ht
        have : t = (mMarks M).length := by omega
        subst this
        rw [wHalf_end hkl]
        exact IH (by omega) (by omega) (Nat.zero_le _) (fun _ => rfl)
      | succ s IH2 =>
        intro t hs ht
        have htl : t < (mMarks M).length := by omega
        obtain ⟨e, he⟩ := IH2 (t + 1) (by omega) (by omega)
        rw [wHalf_step htl] at he
        split at he
        · exact ⟨e, he⟩
        · exact ⟨_, by rw [he, List.append_assoc]⟩
    exact key _ t rfl ht
theorem wW_len1 (M : xMac) (n : Nat) : ∃ b, (wW M n).length = b + (wlay M n).length ∧ ∀ j, j < (wlay M n).length → (wW M n)[b + j]? = some ((wlay M n).getD j []) := by
  cases n with
  | zero => exact ⟨0, rfl, fun j hj => by
      have : j = 0 := by simp [wlay] at hj; omega
      subst this; rfl⟩
  | succ n =>
    refine ⟨(wW M n).length, by simp [wW], fun j hj => ?_⟩
    show (wW M n ++ wlay M (n + 1))[_]? = _
    rw [List.getElem?_append_right (by omega), Nat.add_sub_cancel_left, getD_lt hj, List.getElem?_eq_getElem hj]
end M27
