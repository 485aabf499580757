-- words by their length, in order
noncomputable def wx (M : xMac) (w : List Nat) : List (List Nat) := ((mMarks M).filter (fun t => !(w.getLast? == some (opp t)))).map (fun t => w ++ [t])
noncomputable def wlay (M : xMac) : Nat → List (List Nat)
  | 0 => [[]]
  | n + 1 => (wlay M n).flatMap (wx M)
noncomputable def wW (M : xMac) : Nat → List (List Nat)
  | 0 => [[]]
  | n + 1 => wW M n ++ wlay M (n + 1)
theorem mMk_lt (M : xMac) : ∀ s, ∀ m ∈ mMk M s, m < 2 * s
  | 0, m, h => by simp [mMk] at h
  | s + 1, m, h => by
    rw [mMk_succ] at h
    rcases List.mem_append.mp h with h | h
    · have := mMk_lt M s m h; omega
    · cases hb : mB M s with
      | true => rw [hb] at h; simp at h; omega
      | false => rw [hb] at h; simp at h; omega
theorem mMk_nodup (M : xMac) : ∀ s, (mMk M s).Nodup
  | 0 => by simp [mMk]
  | s + 1 => by
    rw [mMk_succ, List.nodup_append]
    refine ⟨mMk_nodup M s, ?_, fun a ha b hb => ?_⟩
    · cases hb : mB M s <;> simp
    · have h1 := mMk_lt M s a ha
      cases hq : mB M s with
      | true => rw [hq] at hb; simp at hb; omega
      | false => rw [hq] at hb; simp at hb; omega
theorem mMk_mem (M : xMac) : ∀ s m, m / 2 < s → (m % 2 = 1 → mBack M (m / 2)) → m ∈ mMk M s
  | 0, m, h, _ => by omega
  | s + 1, m, h, hb => by
    rw [mMk_succ, List.mem_append]
    by_cases e : m / 2 = s
    · right
      rcases Nat.mod_two_eq_zero_or_one m with q | q
      · have : m = 2 * s := by omega
        subst this
        cases mB M s <;> simp
      · have : m = 2 * s + 1 := by omega
        subst this
        have hq := hb q
        rw [e] at hq
        rw [mB_iff.mpr hq]
        simp
    · left
      exact mMk_mem M s m (by omega) hb
theorem mMarks_mem {M : xMac} {m : Nat} (h : mOkm M m) : m ∈ mMarks M := mMk_mem M (mN M) m h.1 h.2
theorem mMarks_nodup (M : xMac) : (mMarks M).Nodup := mMk_nodup M (mN M)
theorem wx_mem {M : xMac} {w x : List Nat} : x ∈ wx M w ↔ ∃ t ∈ mMarks M, w.getLast? ≠ some (opp t) ∧ x = w ++ [t] := by
  unfold wx
  constructor
  · intro h
    obtain ⟨t, ht, rfl⟩ := List.mem_map.mp h
    obtain ⟨h1, h2⟩ := List.mem_filter.mp ht
    exact ⟨t, h1, by simpa using h2, rfl⟩
  · rintro ⟨t, ht, hne, rfl⟩
    exact List.mem_map.mpr ⟨t, List.mem_filter.mpr ⟨ht, by simpa using hne⟩, rfl⟩
theorem wlay_len {M : xMac} : ∀ {n : Nat} {w : List Nat}, w ∈ wlay M n → w.length = n
  | 0, w, h => by rw [List.mem_singleton.mp h]; rfl
  | n + 1, w, h => by
    obtain ⟨v, hv, hw⟩ := List.mem_flatMap.mp h
    obtain ⟨t, -, -, rfl⟩ := wx_mem.mp hw
    have := wlay_len hv
    simp; omega
theorem wlay_good {M : xMac} : ∀ {n : Nat} {w : List Nat}, w ∈ wlay M n → wOk M w ∧ wRed w
  | 0, w, h => by
    rw [List.mem_singleton.mp h]
    exact ⟨(fun m hm => by cases hm), wRed.nil⟩
  | n + 1, w, h => by
    obtain ⟨v, hv, hw⟩ := List.mem_flatMap.mp h
    obtain ⟨t, ht, hne, rfl⟩ := wx_mem.mp hw
    obtain ⟨h1, h2⟩ := wlay_good hv
    have hp : wpush v t = v ++ [t] := by rw [wpush, if_neg hne]
    rw [← hp]
    exact ⟨h1.push (mMarks_ok M t ht), h2.push t⟩
theorem wlay_all {M : xMac} : ∀ w : List Nat, wOk M w → wRed w → w ∈ wlay M w.length := by
  refine lrev ?_ ?_
  · intro _ _; exact List.mem_singleton.mpr rfl
  · intro w t IH hok hred
    have h1 : wOk M w := fun m hm => hok m (List.mem_append_left _ hm)
    have h2 : wRed w := fun i hi => by
      have := hred i (by simp; omega)
      rw [List.getElem?_append_left (by omega), List.getElem?_append_left (by omega)] at this
      exact this
    have ht := mMarks_mem (hok t (List.mem_append_right _ (List.mem_singleton.mpr rfl)))
    rw [List.length_append, List.length_singleton]
    refine List.mem_flatMap.mpr ⟨w, IH h1 h2, wx_mem.mpr ⟨t, ht, fun q => ?_, rfl⟩⟩
    rw [List.getLast?_eq_getElem?] at q
    have hl : 0 < w.length := by
      apply Nat.pos_of_ne_zero
      intro e
      rw [List.eq_nil_of_length_eq_zero e] at q
      simp at q
    have := hred (w.length - 1) (by simp; omega)
    rw [show w.length - 1 + 1 = w.length by omega, List.getElem?_append_right (by omega), List.getElem?_append_left (by omega), q] at this
    apply this
    simp [opp_opp]
theorem wW_mem {M : xMac} : ∀ {m : Nat} {w : List Nat}, w ∈ wW M m ↔ wOk M w ∧ wRed w ∧ w.length ≤ m
  | 0, w => by
    constructor
    · intro h
      rw [List.mem_singleton.mp h]
      exact ⟨(fun m hm => by cases hm), wRed.nil, Nat.le_refl _⟩
    · rintro ⟨-, -, h⟩
      exact List.mem_singleton.mpr (List.eq_nil_of_length_eq_zero (by omega))
  | m + 1, w => by
    unfold wW
    rw [List.mem_append, wW_mem]
    constructor
    · rintro (⟨h1, h2, h3⟩ | h)
      · exact ⟨h1, h2, by omega⟩
      · obtain ⟨h1, h2⟩ := wlay_good h
        exact ⟨h1, h2, by rw [wlay_len h]; exact Nat.le_refl _⟩
    · rintro ⟨h1, h2, h3⟩
      by_cases e : w.length = m + 1
      · right
        rw [← e]
        exact wlay_all w h1 h2
      · exact Or.inl ⟨h1, h2, by omega⟩
theorem nodup_flat {α β : Type} {f : α → List β} : ∀ {l : List α}, l.Nodup → (∀ a ∈ l, (f a).Nodup) → (∀ a ∈ l, ∀ b ∈ l, a ≠ b → ∀ x, x ∈ f a → x ∉ f b) → (l.flatMap f).Nodup
  | [], _, _, _ => by simp
  | a :: l, hn, h1, h2 => by
    rw [List.nodup_cons] at hn
    rw [List.flatMap_cons, List.nodup_append]
    refine ⟨h1 a List.mem_cons_self, nodup_flat hn.2 (fun b hb => h1 b (List.mem_cons_of_mem _ hb)) (fun b hb c hc => h2 b (List.mem_cons_of_mem _ hb) c (List.mem_cons_of_mem _ hc)), fun x hx y hy e => ?_⟩
    subst e
    obtain ⟨b, hb, hxb⟩ := List.mem_flatMap.mp hy
    have hne : a ≠ b := fun e => hn.1 (by rw [e]; exact hb)
    exact h2 a List.mem_cons_self b (List.mem_cons_of_mem _ hb) hne x hx hxb
theorem wx_nodup (M : xMac) (w : List Nat) : (wx M w).Nodup := by
  unfold wx
  have : ∀ l : List Nat, l.Nodup → (l.map (fun t => w ++ [t])).Nodup := by
    intro l
    induction l with
    | nil => intro _; simp
    | cons t l IH =>
      intro hn
      rw [List.nodup_cons] at hn
      rw [List.map_cons, List.nodup_cons]
      refine ⟨fun h => ?_, IH hn.2⟩
      obtain ⟨s, hs, e⟩ := List.mem_map.mp h
      have : s = t := by simpa using e
      exact hn.1 (by rw [← this]; exact hs)
  exact this _ ((mMarks_nodup M).filter _)
theorem wlay_nodup (M : xMac) : ∀ n, (wlay M n).Nodup
  | 0 => by simp [wlay]
  | n + 1 => by
    unfold wlay
    refine nodup_flat (wlay_nodup M n) (fun a _ => wx_nodup M a) (fun a _ b _ hne x hx hx2 => ?_)
    obtain ⟨t, -, -, rfl⟩ := wx_mem.mp hx
    obtain ⟨s, -, -, e⟩ := wx_mem.mp hx2
    apply hne
    have := congrArg List.dropLast e
    simpa using this
theorem wW_nodup (M : xMac) : ∀ m, (wW M m).Nodup
  | 0 => by simp [wW]
  | m + 1 => by
    unfold wW
    rw [List.nodup_append]
    refine ⟨wW_nodup M m, wlay_nodup M (m + 1), fun a ha b hb e => ?_⟩
    subst e
    have h1 := (wW_mem.mp ha).2.2
    have h2 := wlay_len hb
    omega
