/-- words of a heap: all there, reduced, at most 16 marks -/
def hGood (M : xMac) (hs : List (List Nat)) : Prop := hs.Nodup ∧ ∀ a ∈ hs, wGood M a
/-- what is known of the words below d: what they write, where their parts stand -/
def mHd (I : xI) (M : xMac) (hs : List (List Nat)) (d : Nat) : Prop := ∀ h (hh : h < hs.length), h < d → ∀ x, x < mK M → I 91 (4 * h + x) = nI (wout M hs[h] x) ∧ ∃ j, I 92 (4 * h + x) = nI j ∧ hs[j]? = some (wpart M hs[h] x)
/-- the second list begins with the first; what it has more comes by parts -/
def hExt (M : xMac) (hs hs' : List (List Nat)) : Prop := (∃ e, hs' = hs ++ e) ∧ ∀ P : List Nat → Prop, (∀ a ∈ hs, P a) → (∀ a x, P a → x < mK M → P (wpart M a x)) → ∀ a ∈ hs', P a
theorem hExt.rf {M : xMac} {hs : List (List Nat)} : hExt M hs hs := ⟨⟨[], by simp⟩, fun _ h _ => h⟩
theorem hExt.tr {M : xMac} {a b c : List (List Nat)} (h1 : hExt M a b) (h2 : hExt M b c) : hExt M a c := by
  obtain ⟨⟨e1, rfl⟩, p1⟩ := h1
  obtain ⟨⟨e2, rfl⟩, p2⟩ := h2
  exact ⟨⟨e1 ++ e2, by simp⟩, fun P ha hp => p2 P (p1 P ha hp) hp⟩
theorem hExt.at {M : xMac} {hs hs' : List (List Nat)} (h : hExt M hs hs') {j : Nat} {w : List Nat} (hj : hs[j]? = some w) : hs'[j]? = some w := by
  obtain ⟨⟨e, rfl⟩, -⟩ := h
  rw [List.getElem?_append_left (List.getElem?_eq_some_iff.mp hj).1]
  exact hj
theorem hExt.len {M : xMac} {hs hs' : List (List Nat)} (h : hExt M hs hs') : hs.length ≤ hs'.length := by
  obtain ⟨⟨e, rfl⟩, -⟩ := h
  simp
theorem hTo.ext {M : xMac} {hs hs' : List (List Nat)} {ws : List Nat} {o : Option Nat} (h : hTo hs ws hs' o) (hp : ∀ P : List Nat → Prop, (∀ a ∈ hs, P a) → (∀ a x, P a → x < mK M → P (wpart M a x)) → P ws) : hExt M hs hs' := by
  rcases h with ⟨j, -, -, rfl⟩ | ⟨-, -, -, rfl⟩ | ⟨-, -, -, rfl⟩
  · exact hExt.rf
  · refine ⟨⟨[ws], rfl⟩, fun P ha hs a hm => ?_⟩
    rcases List.mem_append.mp hm with h | h
    · exact ha a h
    · rw [List.mem_singleton.mp h]; exact hp P ha hs
  · exact hExt.rf
theorem hTo.good {M : xMac} {hs hs' : List (List Nat)} {ws : List Nat} {o : Option Nat} (h : hTo hs ws hs' o) (hg : hGood M hs) (hw : wGood M ws) : hGood M hs' := by
  rcases h with ⟨j, -, -, rfl⟩ | ⟨hn, -, -, rfl⟩ | ⟨-, -, -, rfl⟩
  · exact hg
  · refine ⟨?_, fun a ha => ?_⟩
    · rw [List.nodup_append]
      refine ⟨hg.1, by simp, fun a ha b hb => ?_⟩
      rw [List.mem_singleton.mp hb]
      exact fun e => hn (e ▸ ha)
    · rcases List.mem_append.mp ha with h | h
      · exact hg.2 a h
      · rw [List.mem_singleton.mp h]; exact hw
  · exact hg
/-- where the word stands then -/
theorem hTo.at {hs hs' : List (List Nat)} {ws : List Nat} {o : Option Nat} (h : hTo hs ws hs' o) (hl : hs'.length ≤ 200) : ∃ j, o = some j ∧ hs'[j]? = some ws := by
  rcases h with ⟨j, rfl, ⟨h1, h2⟩, rfl⟩ | ⟨hn, -, rfl, rfl⟩ | ⟨-, h1, -, rfl⟩
  · exact ⟨j, rfl, by rw [List.getElem?_eq_getElem h1, h2]⟩
  · exact ⟨_, rfl, by simp⟩
  · omega
theorem hGood.lt {M : xMac} {hs : List (List Nat)} (h : hGood M hs) (hN : mN M ≤ 8) : ∀ a ∈ hs, ∀ m ∈ a, m < 16 := fun a ha m hm => (h.2 a ha).2.2.lt hN hm
