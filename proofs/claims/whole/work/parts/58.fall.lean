-- heaps into which parts fall
noncomputable def addU (M : xMac) (F : List (List Nat)) (q : List Nat) : List (List Nat) := if F.any (fun f => wA M f q) then F else F ++ [q]
noncomputable def cand1 (M : xMac) (d : Nat) (w : List Nat) (m : Nat) : List (List Nat) := (List.range (mK M ^ d)).map (fun p => wparts M (wpush w m) (rOfP (mK M) d p))
noncomputable def cands (M : xMac) (d : Nat) (w : List Nat) : List (List Nat) := (mMarks M).flatMap (cand1 M d w)
noncomputable def longP (M : xMac) (w : List Nat) : Bool := (mMarks M).any (fun t => decide (16 < (wpush w t).length))
noncomputable def fallGo (M : xMac) (d : Nat) : Nat → Nat → List (List Nat) → List (List Nat) → Option (List (List Nat))
  | 0, _, _, _ => none
  | f + 1, k, F, Sn => match F[k]? with
    | none => some F
    | some w => if longP M w then none else if hF M (Sn ++ cands M d w) = false then none else if 20 < ((cands M d w).foldl (addU M) F).length then none else fallGo M d f (k + 1) ((cands M d w).foldl (addU M) F) (Sn ++ cands M d w)
noncomputable def fallF0 (M : xMac) : List (List Nat) := [] :: (mMarks M).map (fun t => [t])
noncomputable def fallOf (M : xMac) (d : Nat) : Option (List (List Nat)) := fallGo M d 21 0 (fallF0 M) (fallF0 M)
noncomputable def sp_fall (S : xSt) (d : Int32) : Int32 := if 1 ≤ d ∧ d ≤ 2 then (if mW S.2.1 = false then -5 else match fallOf S.2.1 (w2n d) with
  | none => -7
  | some F => nI F.length) else -1
noncomputable def sp_fallen (S : xSt) (d i to : Int32) : Int32 × xSt := match ix to 8 with
  | none => (-1, S)
  | some to => if sp_fall S d < 0 then (sp_fall S d, S) else match fallOf S.2.1 (w2n d) with
    | none => (-7, S)
    | some F => match ix i F.length with
      | none => (-8, S)
      | some i => (nI (F.getD i []).length, (S.1, S.2.1, va_up S.2.2 to (F.getD i [])))
theorem addU_pre (M : xMac) (F : List (List Nat)) (q : List Nat) : ∃ e, addU M F q = F ++ e := by
  unfold addU
  split
  · exact ⟨[], by simp⟩
  · exact ⟨[q], rfl⟩
theorem addU_fold (M : xMac) : ∀ (cs F : List (List Nat)), ∃ e, cs.foldl (addU M) F = F ++ e
  | [], F => ⟨[], by simp⟩
  | c :: cs, F => by
    obtain ⟨e, he⟩ := addU_pre M F c
    obtain ⟨e2, h2⟩ := addU_fold M cs (addU M F c)
    refine ⟨e ++ e2, ?_⟩
    rw [List.foldl_cons, h2, he, List.append_assoc]
noncomputable def candP (M : xMac) (d : Nat) (w : List Nat) (t p : Nat) : List (List Nat) := ((mMarks M).take t).flatMap (cand1 M d w) ++ (List.range p).map (fun p => wparts M (wpush w ((mMarks M).getD t 0)) (rOfP (mK M) d p))
theorem candP_0 (M : xMac) (d : Nat) (w : List Nat) : candP M d w 0 0 = [] := by simp [candP]
theorem candP_step (M : xMac) (d : Nat) (w : List Nat) (t p : Nat) : candP M d w t (p + 1) = candP M d w t p ++ [wparts M (wpush w ((mMarks M).getD t 0)) (rOfP (mK M) d p)] := by
  unfold candP
  rw [List.range_succ, List.map_append, List.append_assoc]
  rfl
theorem marks_getD {M : xMac} {t : Nat} (ht : t < (mMarks M).length) : (mMarks M).getD t 0 = (mMarks M)[t] := by
  rw [List.getD_eq_getElem?_getD, List.getElem?_eq_getElem ht]; rfl
theorem candP_end {M : xMac} {d : Nat} {w : List Nat} {t : Nat} (ht : t < (mMarks M).length) : candP M d w t (mK M ^ d) = candP M d w (t + 1) 0 := by
  unfold candP
  rw [List.take_succ_eq_append_getElem ht, List.flatMap_append, marks_getD ht]
  simp [cand1]
theorem candP_all (M : xMac) (d : Nat) (w : List Nat) : candP M d w (mMarks M).length 0 = cands M d w := by
  unfold candP cands
  rw [List.take_length]
  simp
theorem candP_pre {M : xMac} {d : Nat} {w : List Nat} {t p : Nat} (ht : t < (mMarks M).length) (hp : p ≤ mK M ^ d) : ∃ e, cands M d w = candP M d w t p ++ e := by
  have h1 : (mMarks M) = (mMarks M).take t ++ (mMarks M)[t] :: (mMarks M).drop (t + 1) := by
    rw [← List.drop_eq_getElem_cons ht, List.take_append_drop]
  have h2 : List.range (mK M ^ d) = List.range p ++ (List.range (mK M ^ d - p)).map (fun x => p + x) := by
    rw [← List.range_add, Nat.add_sub_cancel' hp]
  unfold cands candP
  conv => enter [1, e, 1]; rw [h1]
  rw [List.flatMap_append, List.flatMap_cons, marks_getD ht]
  conv => enter [1, e, 1, 2, 1]; unfold cand1; rw [h2, List.map_append]
  exact ⟨_, by rw [← List.append_assoc, ← List.append_assoc, List.append_assoc]⟩
theorem wReach.mono {M : xMac} {A B : List (List Nat)} (h : ∀ a ∈ A, a ∈ B) {w : List Nat} (hw : wReach M A w) : wReach M B w := by
  obtain ⟨a, ha, r, hr, e⟩ := hw
  exact ⟨a, h a ha, r, hr, e⟩
/-- why a heap is spent -/
def fallNo (M : xMac) (F Sn : List (List Nat)) : Prop := (∃ hs : List (List Nat), hs.Nodup ∧ 200 < hs.length ∧ ∀ w ∈ hs, wReach M Sn w) ∨ 20 < F.length
theorem fallGo_none {M : xMac} {d f k : Nat} {F Sn : List (List Nat)} {w : List Nat} (hk : F[k]? = some w) (h : longP M w = true ∨ ∃ t p, t < (mMarks M).length ∧ p ≤ mK M ^ d ∧ fallNo M ((candP M d w t p).foldl (addU M) F) (Sn ++ candP M d w t p)) : fallGo M d (f + 1) k F Sn = none := by
  unfold fallGo
  rw [hk]
  dsimp only
  rcases h with h | ⟨t, p, ht, hp, h⟩
  · rw [if_pos h]
  split
  · rfl
  obtain ⟨e, he⟩ := candP_pre (w := w) ht hp
  rcases h with ⟨hs, hn, hl, hr⟩ | h
  · rw [if_pos (hF_f.mpr (hFits.no hn (fun v hv => (hr v hv).mono (fun a ha => by
      rw [he]
      rcases List.mem_append.mp ha with h | h
      · exact List.mem_append_left _ h
      · exact List.mem_append_right _ (List.mem_append_left _ h))) hl))]
  · split
    · rfl
    obtain ⟨e2, h2⟩ := addU_fold M e ((candP M d w t p).foldl (addU M) F)
    rw [if_pos]
    rw [he, List.foldl_append, h2, List.length_append]
    omega
theorem fallGo_go {M : xMac} {d f k : Nat} {F Sn : List (List Nat)} {w : List Nat} (hk : F[k]? = some w) (h1 : ∀ t (ht : t < (mMarks M).length), (wpush w (mMarks M)[t]).length ≤ 16) (h2 : hFits M (Sn ++ cands M d w)) (h3 : ((cands M d w).foldl (addU M) F).length ≤ 20) : fallGo M d (f + 1) k F Sn = fallGo M d f (k + 1) ((cands M d w).foldl (addU M) F) (Sn ++ cands M d w) := by
  conv => lhs; unfold fallGo
  rw [hk]
  dsimp only
  rw [if_neg, if_neg, if_neg (by omega)]
  · rw [hF_iff.mpr h2]; decide
  · intro q
    obtain ⟨t, ht, h⟩ := List.any_eq_true.mp q
    obtain ⟨i, hi, rfl⟩ := List.getElem_of_mem ht
    have := h1 i hi
    simp at h
    omega
theorem fallGo_end {M : xMac} {d f k : Nat} {F Sn : List (List Nat)} (hk : F.length ≤ k) : fallGo M d (f + 1) k F Sn = some F := by
  unfold fallGo
  rw [List.getElem?_eq_none hk]
