/-- from p to g by d moves, told from p's side -/
def rt (M : xMac) (n g : Nat) : Nat → Nat → Prop
  | 0, p => p = g
  | d + 1, p => ∃ m ∈ mMarks M, rt M n g d (mkp M n m p)
theorem rch_rt {M : xMac} {n f g : Nat} : ∀ {d q e : Nat}, rch M n f d q → rt M n g e q → rt M n g (d + e) f
  | 0, q, e, h, k => by rw [Nat.zero_add, ← show q = f from h]; exact k
  | d + 1, q, e, h, k => by
    obtain ⟨q', hq', m, hm, rfl⟩ := h
    have := rch_rt (e := e + 1) hq' ⟨m, hm, k⟩
    rwa [show d + (e + 1) = d + 1 + e by omega] at this
theorem rt_rch {M : xMac} {n f g : Nat} : ∀ {d p e : Nat}, rt M n g d p → rch M n f e p → rch M n f (e + d) g
  | 0, p, e, h, k => by rw [Nat.add_zero, ← show p = g from h]; exact k
  | d + 1, p, e, h, k => by
    obtain ⟨m, hm, h'⟩ := h
    have := rt_rch (e := e + 1) h' ⟨p, k, m, hm, rfl⟩
    rwa [show e + 1 + d = e + (d + 1) by omega] at this
theorem rt_iff {M : xMac} {n d p g : Nat} : rt M n g d p ↔ rch M n p d g := ⟨fun h => by have := rt_rch (e := 0) h (show rch M n p 0 p from rfl); rwa [Nat.zero_add] at this, fun h => by have := rch_rt (e := 0) h (show rt M n g 0 g from rfl); rwa [Nat.add_zero] at this⟩
theorem rt_isD {M : xMac} {n g p d : Nat} (h : rt M n g d p) : ∃ k, k ≤ d ∧ isD M n p g k := rch_isD (rt_iff.mp h)
theorem isD_step {M : xMac} {n p g d : Nat} (h : isD M n p g (d + 1)) : ∃ m ∈ mMarks M, isD M n (mkp M n m p) g d := by
  obtain ⟨m, hm, hr⟩ := rt_iff.mpr h.1
  obtain ⟨k, hk, hd⟩ := rt_isD hr
  by_cases e : k = d
  · subst e; exact ⟨m, hm, hd⟩
  · exact absurd (rt_iff.mp (show rt M n g (k + 1) p from ⟨m, hm, rt_iff.mpr hd.1⟩)) (h.2 (k + 1) (by omega))
theorem dst_eq {M : xMac} {n f p d : Nat} : dst M n f p = some d ↔ isD M n f p d := ⟨dst_of, dst_some⟩
/-- the first mark that leads nearer -/
noncomputable def wm (M : xMac) (n g p d : Nat) : Nat := ((mMarks M).find? (fun m => decide (dst M n (mkp M n m p) g = some d))).getD 0
noncomputable def wayAt (M : xMac) (n g : Nat) : Nat → Nat → Nat → Nat
  | _, _, 0 => 0
  | 0, p, d + 1 => wm M n g p d
  | i + 1, p, d + 1 => wayAt M n g i (mkp M n (wm M n g p d) p) d
noncomputable def sp_way (S : xSt) (a b i : Int32) : Int32 := if i < 0 ∨ sp_far S a b ≤ i then 0 else tok (wayAt S.2.1 (xrw S a).length (plc (mK S.2.1) (xrw S b)) (w2n i) (plc (mK S.2.1) (xrw S a)) (w2n (sp_far S a b)))
theorem wm_at {M : xMac} {n g p d : Nat} (h : isD M n p g (d + 1)) : ∃ t, ∃ ht : t < (mMarks M).length, (mMarks M)[t] = wm M n g p d ∧ isD M n (mkp M n (wm M n g p d) p) g d ∧ ∀ t' (ht' : t' < (mMarks M).length), t' < t → ¬ isD M n (mkp M n (mMarks M)[t'] p) g d := by
  obtain ⟨m, hm, hd⟩ := isD_step h
  unfold wm
  cases hc : (mMarks M).find? (fun m => decide (dst M n (mkp M n m p) g = some d)) with
  | none =>
    have := List.find?_eq_none.mp hc m hm
    simp only [decide_eq_true_eq] at this
    exact absurd (dst_some hd) this
  | some m' =>
    have h1 := List.find?_some hc
    simp only [decide_eq_true_eq] at h1
    rw [List.find?_eq_some_iff_append] at hc
    obtain ⟨-, as, bs, e, hall⟩ := hc
    refine ⟨as.length, by rw [e]; simp, ?_, dst_of h1, fun t' ht' hlt q => ?_⟩
    · show (mMarks M)[as.length]'_ = m'
      simp only [e]
      simp
    · have hmem : (mMarks M)[t'] ∈ as := by
        have : (mMarks M)[t'] = as[t'] := by
          simp only [e]
          rw [List.getElem_append_left hlt]
        rw [this]
        exact List.getElem_mem hlt
      have := hall _ hmem
      simp only [Bool.not_eq_true', decide_eq_false_iff_not] at this
      exact this (dst_some q)
