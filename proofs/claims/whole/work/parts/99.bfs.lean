-- a walk over the rows of a level, the nearest first
noncomputable abbrev mk_ (M : xMac) (t : Nat) : Nat := (mMarks M).getD t 0
def bfs (M : xMac) (n : Nat) (ok : Nat → Bool) (V : Nat → Prop) (f : Nat) (q : List Nat) (par tt dl : Nat → Nat) (h k : Nat) : Prop :=
  (q[0]? = some f ∧ q.Nodup ∧ ∀ p ∈ q, p < mK M ^ n ∧ ¬ V p) ∧
  (dl 0 = 0 ∧ ∀ i, 0 < i → i < q.length → par i < i ∧ (par i < h ∨ par i = h ∧ tt i < k) ∧ tt i < (mMarks M).length ∧ ok (mk_ M (tt i)) = true ∧ q[i]? = some (mkp M n (mk_ M (tt i)) (q.getD (par i) 0)) ∧ dl i = dl (par i) + 1) ∧
  (∀ j t, j < q.length → t < (mMarks M).length → (j < h ∨ j = h ∧ t < k) → ok (mk_ M t) = true → V (mkp M n (mk_ M t) (q.getD j 0)) ∨ ∃ i, q[i]? = some (mkp M n (mk_ M t) (q.getD j 0)) ∧ dl i ≤ dl j + 1) ∧
  ((∀ i i', i ≤ i' → i' < q.length → dl i ≤ dl i') ∧ (h < q.length → ∀ i, i < q.length → dl i ≤ dl h + 1)) ∧
  (∀ i i', 0 < i → i < i' → i' < q.length → par i < par i' ∨ par i = par i' ∧ tt i < tt i') ∧
  (∀ i, 0 < i → i < q.length → ∀ j t, t < (mMarks M).length → (j < par i ∨ j = par i ∧ t < tt i) → ok (mk_ M t) = true → V (mkp M n (mk_ M t) (q.getD j 0)) ∨ ∃ i', i' < i ∧ q[i']? = some (mkp M n (mk_ M t) (q.getD j 0)))
theorem bfs.init {M : xMac} {n : Nat} {ok : Nat → Bool} {V : Nat → Prop} {f : Nat} (hf : f < mK M ^ n) (hV : ¬ V f) : bfs M n ok V f [f] (fun _ => 0) (fun _ => 0) (fun _ => 0) 0 0 := by
  refine ⟨⟨rfl, by simp, fun p hp => by rw [List.mem_singleton.mp hp]; exact ⟨hf, hV⟩⟩, ⟨rfl, fun i h1 h2 => ?_⟩, fun j t h1 h2 h3 => ?_, ⟨fun _ _ _ _ => Nat.le_refl _, fun _ _ _ => Nat.zero_le _⟩, fun i i' h1 h2 h3 => ?_, fun i h1 h2 => ?_⟩
  · simp at h2; omega
  · omega
  · simp at h3; omega
  · simp at h2; omega
theorem bfs.len {M : xMac} {n : Nat} {ok : Nat → Bool} {V : Nat → Prop} {f : Nat} {q : List Nat} {par tt dl : Nat → Nat} {h k : Nat} (b : bfs M n ok V f q par tt dl h k) : q.length ≤ mK M ^ n ∧ 0 < q.length := by
  refine ⟨?_, ?_⟩
  · have := nodup_len (b := List.range (mK M ^ n)) b.1.2.1 (fun p hp => List.mem_range.mpr (b.1.2.2 p hp).1)
    rw [List.length_range] at this
    exact this
  · have := b.1.1
    rcases Nat.eq_zero_or_pos q.length with e | e
    · rw [List.length_eq_zero_iff.mp e] at this; cases this
    · exact e
theorem bfs.skip {M : xMac} {n : Nat} {ok : Nat → Bool} {V : Nat → Prop} {f : Nat} {q : List Nat} {par tt dl : Nat → Nat} {h k : Nat} (b : bfs M n ok V f q par tt dl h k) (hh : h < q.length) (hs : ok (mk_ M k) = false ∨ V (mkp M n (mk_ M k) (q.getD h 0)) ∨ mkp M n (mk_ M k) (q.getD h 0) ∈ q) : bfs M n ok V f q par tt dl h (k + 1) := by
  obtain ⟨b1, b2, b3, b4, b5, b6⟩ := b
  refine ⟨b1, ⟨b2.1, fun i h1 h2 => ?_⟩, fun j t h1 h2 h3 h4 => ?_, b4, b5, b6⟩
  · obtain ⟨c1, c2, c3⟩ := b2.2 i h1 h2
    exact ⟨c1, by omega, c3⟩
  · by_cases e : j < h ∨ j = h ∧ t < k
    · exact b3 j t h1 h2 e h4
    · have e1 : j = h := by omega
      have e2 : t = k := by omega
      subst e1; subst e2
      rcases hs with hs | hs | hs
      · rw [hs] at h4; cases h4
      · exact Or.inl hs
      · obtain ⟨i, hi, e⟩ := List.getElem_of_mem hs
        exact Or.inr ⟨i, by rw [List.getElem?_eq_getElem hi, e], b4.2 hh i hi⟩
theorem getD_app {q : List Nat} {x i : Nat} (h : i < q.length) : (q ++ [x]).getD i 0 = q.getD i 0 := by
  rw [List.getD_eq_getElem?_getD, List.getD_eq_getElem?_getD, List.getElem?_append_left h]
theorem bfs.add {M : xMac} {n : Nat} {ok : Nat → Bool} {V : Nat → Prop} {f : Nat} {q : List Nat} {par tt dl : Nat → Nat} {h k : Nat} (b : bfs M n ok V f q par tt dl h k) (hh : h < q.length) (hk : k < (mMarks M).length) (ho : ok (mk_ M k) = true) (hV : ¬ V (mkp M n (mk_ M k) (q.getD h 0))) (hq : mkp M n (mk_ M k) (q.getD h 0) ∉ q) (hN : mkp M n (mk_ M k) (q.getD h 0) < mK M ^ n) : bfs M n ok V f (q ++ [mkp M n (mk_ M k) (q.getD h 0)]) (fun i => if i = q.length then h else par i) (fun i => if i = q.length then k else tt i) (fun i => if i = q.length then dl h + 1 else dl i) h (k + 1) := by
  have hl := b.len
  obtain ⟨b1, b2, b3, b4, b5, b6⟩ := b
  generalize hx : mkp M n (mk_ M k) (q.getD h 0) = x at *
  have hat : ∀ {i y : Nat}, q[i]? = some y → (q ++ [x])[i]? = some y := fun {i y} e => by
    rw [List.getElem?_append_left (List.getElem?_eq_some_iff.mp e).1]; exact e
  have hlast : (q ++ [x])[q.length]? = some x := by simp
  refine ⟨⟨hat b1.1, ?_, fun p hp => ?_⟩, ⟨?_, fun i h1 h2 => ?_⟩, fun j t h1 h2 h3 h4 => ?_, ⟨fun i i' h1 h2 => ?_, fun _ i h1 => ?_⟩, fun i i' h1 h2 h3 => ?_, fun i h1 h2 j t h3 h4 h5 => ?_⟩
  · rw [List.nodup_append]
    refine ⟨b1.2.1, by simp, fun a ha c hc e => hq ?_⟩
    rw [← List.mem_singleton.mp hc, ← e]; exact ha
  · rcases List.mem_append.mp hp with e | e
    · exact b1.2.2 p e
    · rw [List.mem_singleton.mp e]; exact ⟨hN, hV⟩
  · show (if 0 = q.length then dl h + 1 else dl 0) = 0
    rw [if_neg (by omega)]; exact b2.1
  · rw [List.length_append, List.length_singleton] at h2
    dsimp only
    by_cases e : i = q.length
    · rw [if_pos e, if_pos e, if_pos e, if_neg (show ¬ h = q.length by omega), getD_app hh, e, hx]
      exact ⟨hh, by omega, hk, ho, hlast, rfl⟩
    · obtain ⟨c1, c2, c3, c4, c5, c6⟩ := b2.2 i h1 (by omega)
      rw [if_neg e, if_neg e, if_neg e, if_neg (by omega), getD_app (by omega)]
      exact ⟨c1, by omega, c3, c4, hat c5, c6⟩
  · rw [List.length_append, List.length_singleton] at h1
    dsimp only
    have hj : j < q.length := by omega
    rw [getD_app hj, if_neg (show ¬ j = q.length by omega)]
    by_cases e : j < h ∨ j = h ∧ t < k
    · rcases b3 j t hj h2 e h4 with r | ⟨i, r1, r2⟩
      · exact Or.inl r
      · have hi := (List.getElem?_eq_some_iff.mp r1).1
        exact Or.inr ⟨i, hat r1, by rw [if_neg (by omega)]; exact r2⟩
    · have e1 : j = h := by omega
      have e2 : t = k := by omega
      subst e1; subst e2
      rw [hx]
      exact Or.inr ⟨q.length, hlast, by rw [if_pos rfl]; exact Nat.le_refl _⟩
  · rw [List.length_append, List.length_singleton] at h2
    dsimp only
    by_cases e' : i' = q.length
    · rw [if_pos e']
      by_cases e : i = q.length
      · rw [if_pos e]; exact Nat.le_refl _
      · rw [if_neg e]; exact b4.2 hh i (by omega)
    · rw [if_neg e', if_neg (by omega)]; exact b4.1 i i' h1 (by omega)
  · rw [List.length_append, List.length_singleton] at h1
    dsimp only
    rw [if_neg (show ¬ h = q.length by omega)]
    by_cases e : i = q.length
    · rw [if_pos e]; exact Nat.le_refl _
    · rw [if_neg e]; exact b4.2 hh i (by omega)
  · rw [List.length_append, List.length_singleton] at h3
    dsimp only
    by_cases e' : i' = q.length
    · rw [if_pos e', if_pos e', if_neg (by omega), if_neg (by omega)]
      have := (b2.2 i h1 (by omega)).2.1
      omega
    · rw [if_neg e', if_neg e', if_neg (by omega), if_neg (by omega)]
      exact b5 i i' h1 h2 (by omega)
  · rw [List.length_append, List.length_singleton] at h2
    dsimp only at h4
    by_cases e : i = q.length
    · rw [if_pos e, if_pos e] at h4
      rw [getD_app (by omega)]
      rcases b3 j t (by omega) h3 h4 h5 with r | ⟨i', r1, r2⟩
      · exact Or.inl r
      · exact Or.inr ⟨i', by rw [e]; exact (List.getElem?_eq_some_iff.mp r1).1, hat r1⟩
    · rw [if_neg e, if_neg e] at h4
      have hp := (b2.2 i h1 (by omega)).1
      rw [getD_app (by omega)]
      rcases b6 i h1 (by omega) j t h3 h4 h5 with r | ⟨i', r1, r2⟩
      · exact Or.inl r
      · exact Or.inr ⟨i', r1, hat r2⟩
theorem bfs.next {M : xMac} {n : Nat} {ok : Nat → Bool} {V : Nat → Prop} {f : Nat} {q : List Nat} {par tt dl : Nat → Nat} {h : Nat} (b : bfs M n ok V f q par tt dl h (mMarks M).length) (hh : h < q.length) : bfs M n ok V f q par tt dl (h + 1) 0 := by
  obtain ⟨b1, b2, b3, b4, b5, b6⟩ := b
  refine ⟨b1, ⟨b2.1, fun i h1 h2 => ?_⟩, fun j t h1 h2 h3 h4 => ?_, ⟨b4.1, fun h1 i h2 => ?_⟩, b5, b6⟩
  · obtain ⟨c1, c2, c3⟩ := b2.2 i h1 h2
    exact ⟨c1, by omega, c3⟩
  · exact b3 j t h1 h2 (by omega) h4
  · have := b4.2 hh i h2
    have := b4.1 h (h + 1) (by omega) h1
    omega
