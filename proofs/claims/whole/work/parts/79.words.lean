-- words that are joined
theorem wpush_app {w : List Nat} {m : Nat} (h : w.getLast? ≠ some (opp m)) : wpush w m = w ++ [m] := by unfold wpush; rw [if_neg h]
theorem wpush_can {w : List Nat} {m : Nat} (h : w.getLast? = some (opp m)) : wpush w m = w.dropLast := by unfold wpush; rw [if_pos h]
theorem wRed.last {w : List Nat} {a b : Nat} (h : wRed (w ++ [a, b])) : b ≠ opp a := fun e => by
  have := h w.length (by simp)
  apply this
  rw [List.getElem?_append_right (by omega), List.getElem?_append_right (by omega)]
  simp [e]
theorem wpush_opp {w : List Nat} (h : wRed w) (m : Nat) : wpush (wpush w m) (opp m) = w := by
  by_cases q : w.getLast? = some (opp m)
  · rw [wpush_can q]
    have hw : w = w.dropLast ++ [opp m] := by
      rcases list_snoc w with e | ⟨l, a, e⟩
      · rw [e] at q; cases q
      · subst e; rw [List.getLast?_append] at q; simp at q; rw [q]; simp
    have hl : w.dropLast.getLast? ≠ some (opp (opp m)) := fun e => by
      rw [opp_opp] at e
      rcases list_snoc w.dropLast with e2 | ⟨l, a, e2⟩
      · rw [e2] at e; cases e
      · rw [e2, List.getLast?_append] at e
        simp at e
        rw [hw, e2, e, List.append_assoc] at h
        exact wRed.last h rfl
    rw [wpush_app hl]
    exact hw.symm
  · rw [wpush_app q, wpush_can (by rw [opp_opp]; simp)]
    simp
theorem wpush_opp' {w : List Nat} (h : wRed w) (m : Nat) : wpush (wpush w (opp m)) m = w := by
  have := wpush_opp h (opp m)
  rwa [opp_opp] at this
theorem wapp_push {a u : List Nat} (ha : wRed a) (m : Nat) : wapp a (wpush u m) = wpush (wapp a u) m := by
  by_cases q : u.getLast? = some (opp m)
  · rw [wpush_can q]
    have hu : u = u.dropLast ++ [opp m] := by
      rcases list_snoc u with e | ⟨l, a, e⟩
      · rw [e] at q; cases q
      · subst e; rw [List.getLast?_append] at q; simp at q; rw [q]; simp
    have : wapp a u = wpush (wapp a u.dropLast) (opp m) := by
      conv => lhs; rw [hu]
      rw [wapp_snoc]
    rw [this, wpush_opp' (wapp_red _ _ ha)]
  · rw [wpush_app q, wapp_snoc]
theorem wapp_wapp {a : List Nat} (ha : wRed a) (l : List Nat) : wapp a (wapp [] l) = wapp a l := by
  induction l using snoc_ind with
  | h0 => rfl
  | h1 l m IH => rw [wapp_snoc, wapp_push ha, IH, wapp_snoc]
theorem wapp_nil (l : List Nat) : wapp l [] = l := rfl
/-- what has begun to grow only grows -/
theorem wapp_grow {b : List Nat} (hb : wRed b) (a : List Nat) {i : Nat} (hi : i < b.length) (hg : (wapp a (b.take i)).getLast? ≠ some (opp b[i])) : ∀ j, i < j → j ≤ b.length → (wapp a (b.take j)).length = (wapp a (b.take i)).length + (j - i) ∧ (wapp a (b.take j)).getLast? = some (b.getD (j - 1) 0) := by
  intro j hij hj
  induction j with
  | zero => omega
  | succ j IH =>
    have hjl : j < b.length := by omega
    have e : wapp a (b.take (j + 1)) = wpush (wapp a (b.take j)) b[j] := by rw [List.take_succ_eq_append_getElem hjl, wapp_snoc]
    rcases Nat.lt_or_ge i j with q | q
    · obtain ⟨h1, h2⟩ := IH q (by omega)
      have hne : (wapp a (b.take j)).getLast? ≠ some (opp b[j]) := by
        rw [h2]
        intro e2
        have hr := hb (j - 1) (by omega)
        rw [show j - 1 + 1 = j by omega, List.getElem?_eq_getElem hjl, List.getElem?_eq_getElem (show j - 1 < b.length by omega)] at hr
        have e3 := Option.some.inj e2
        rw [List.getD_eq_getElem?_getD, List.getElem?_eq_getElem (show j - 1 < b.length by omega)] at e3
        apply hr
        simp only [Option.map_some, Option.getD_some] at e3 ⊢
        rw [e3, opp_opp]
      rw [e, wpush_app hne]
      refine ⟨by rw [List.length_append, h1, List.length_singleton]; omega, ?_⟩
      rw [List.getLast?_append]
      simp [hjl]
    · have : i = j := by omega
      subst this
      rw [e, wpush_app hg]
      refine ⟨by rw [List.length_append, List.length_singleton]; omega, ?_⟩
      rw [List.getLast?_append]
      simp [hjl]
theorem wapp_full {a b : List Nat} (hb : wRed b) {i : Nat} (hi : i < b.length) (hf : 16 < (wpush (wapp a (b.take i)) b[i]).length) (h16 : (wapp a (b.take i)).length ≤ 16) : 16 < (wapp a b).length := by
  have hg : (wapp a (b.take i)).getLast? ≠ some (opp b[i]) := fun q => by
    rw [wpush_can q] at hf
    simp at hf
    omega
  have := (wapp_grow hb a hi hg b.length hi (Nat.le_refl _)).1
  rw [List.take_length] at this
  rw [wpush_app hg] at hf
  simp at hf
  omega
-- acts by parts
theorem mact_opp {M : xMac} (hM : mOk M) : ∀ (r : List Nat) (o : Option Nat), (∀ m, o = some m → mBack M (m / 2)) → rOk M r → mact M (o.map opp) (mact M o r) = r
  | [], o, _, _ => by cases o <;> rfl
  | x :: r, none, _, _ => by rw [Option.map_none, mact_none, mact_none]
  | x :: r, some m, hb, hr => by
    have hb' := hb m rfl
    have hx := hr x List.mem_cons_self
    have h1 : mw M (opp m) (mw M m x) = x ∧ mg M (opp m) (mw M m x) = (mg M m x).map opp := by
      rcases Nat.mod_two_eq_zero_or_one m with q | q
      · have e : opp m = m + 1 := by unfold opp; rw [if_pos q]
        have e2 : (m + 1) / 2 = m / 2 := by omega
        have hi := mInv_some hb'.fair hx rfl
        rw [e]
        constructor
        · unfold mw; rw [if_neg (by omega), if_pos q, e2, hi]
        · unfold mg mw; rw [if_neg (by omega), if_pos q, if_pos q, e2, hi]
          cases mGo M (m / 2) x with
          | none => rfl
          | some g => simp [opp]
      · have e : opp m = m - 1 := by unfold opp; rw [if_neg (by omega)]
        have e2 : (m - 1) / 2 = m / 2 := by omega
        have hi := mInv_ok hM hb'.lt hb'.fair hx
        rw [e]
        constructor
        · unfold mw; rw [if_pos (by omega), if_neg (by omega), e2, hi.2]
        · unfold mg mw; rw [if_pos (by omega), if_neg (by omega), if_neg (by omega), e2]
          cases mGo M (m / 2) (mInv M (m / 2) x) with
          | none => rfl
          | some g => simp [opp]
    show mw M (opp m) (mw M m x) :: mact M (mg M (opp m) (mw M m x)) (mact M (mg M m x) r) = x :: r
    rw [h1.1, h1.2, mact_opp hM r (mg M m x) (fun g hg => mg_back hM hb' hx hg) (fun a ha => hr a (List.mem_cons_of_mem _ ha))]
theorem okm_back {M : xMac} {m : Nat} (h1 : mOkm M m) (h2 : mOkm M (opp m)) : mBack M (m / 2) := by
  rcases Nat.mod_two_eq_zero_or_one m with q | q
  · have := h2.2 (by unfold opp; rw [if_pos q]; omega)
    rwa [opp_div] at this
  · exact h1.2 q
theorem wact_push {M : xMac} (hM : mOk M) (hwh : mWhole M) {w : List Nat} {m : Nat} (hw : wOk M w) (hm : mOkm M m) {r : List Nat} (hr : rOk M r) : wact M (wpush w m) r = mact M (some m) (wact M w r) := by
  by_cases q : w.getLast? = some (opp m)
  · rw [wpush_can q]
    have hu : w = w.dropLast ++ [opp m] := by
      rcases list_snoc w with e | ⟨l, a, e⟩
      · rw [e] at q; cases q
      · subst e; rw [List.getLast?_append] at q; simp at q; rw [q]; simp
    have hb := okm_back hm (hw (opp m) (by rw [hu]; simp))
    have hw' : wOk M w.dropLast := fun a ha => hw a (List.dropLast_subset _ ha)
    have : wact M w r = mact M (some (opp m)) (wact M w.dropLast r) := by
      conv => lhs; rw [hu]
      rw [wact_snoc]
    rw [this]
    have := mact_opp hM (wact M w.dropLast r) (some (opp m)) (fun a ha => by cases ha; rw [opp_div]; exact hb) (wact_ok hM hwh _ _ hw' hr)
    rw [Option.map_some, opp_opp] at this
    exact this.symm
  · rw [wpush_app q, wact_snoc]
theorem wpartL_snoc (M : xMac) (w : List Nat) (m x : Nat) : wpartL M (w ++ [m]) x = wpartF M (wpartL M w x) m := by unfold wpartL; rw [List.foldl_append]; rfl
theorem wpart_snoc (M : xMac) (w : List Nat) (m x : Nat) : wpart M (w ++ [m]) x = wpushO (wpart M w x) (mg M m (wout M w x)) := by unfold wpart wout; rw [wpartL_snoc]; rfl
theorem wout_snoc (M : xMac) (w : List Nat) (m x : Nat) : wout M (w ++ [m]) x = mw M m (wout M w x) := by unfold wout; rw [wpartL_snoc]; rfl
theorem wact_cons {M : xMac} (hM : mOk M) (hwh : mWhole M) {x : Nat} (hx : x < mK M) {r : List Nat} (hr : rOk M r) : ∀ {w : List Nat}, wOk M w → wact M w (x :: r) = wout M w x :: wact M (wpart M w x) r := by
  intro w
  induction w using snoc_ind with
  | h0 => intro _; rfl
  | h1 w m IH =>
    intro hw
    have hw1 : wOk M w := fun a ha => hw a (List.mem_append_left _ ha)
    have hm := hw m (List.mem_append_right _ (List.mem_singleton.mpr rfl))
    have ho := wout_lt hM hwh hw1 hx
    rw [wact_snoc, IH hw1, wout_snoc, wpart_snoc]
    show mw M m (wout M w x) :: mact M (mg M m (wout M w x)) (wact M (wpart M w x) r) = _
    congr 1
    cases hg : mg M m (wout M w x) with
    | none => rw [mact_none]; rfl
    | some g => exact (wact_push hM hwh (wpart_good hM hwh hw1 hx).1 (mg_ok hM hwh hm ho hg) hr).symm
-- rows as numbers
theorem rowNum_div {r : List Nat} (h : ∀ x ∈ r, x < 4) : ∀ i, i ≤ r.length → rowNum r / 4 ^ i = rowNum (r.take (r.length - i)) := by
  intro i
  induction i with
  | zero => intro _; simp
  | succ i IH =>
    intro hi
    have h1 := IH (by omega)
    have hl : r.length - (i + 1) < r.length := by omega
    have e : r.take (r.length - i) = r.take (r.length - (i + 1)) ++ [r[r.length - (i + 1)]] := by
      rw [← List.take_succ_eq_append_getElem hl]
      congr 1
      omega
    have hx := h _ (List.getElem_mem hl)
    rw [Nat.pow_succ, ← Nat.div_div_eq_div_mul, h1, e, rowNum_snoc]
    omega
theorem rowNum_dig {r : List Nat} (h : ∀ x ∈ r, x < 4) {i : Nat} (hi : i < r.length) : rowNum r / 4 ^ i % 4 = r[r.length - 1 - i]'(by omega) := by
  have hl : r.length - 1 - i < r.length := by omega
  have e : r.take (r.length - i) = r.take (r.length - 1 - i) ++ [r[r.length - 1 - i]] := by
    rw [← List.take_succ_eq_append_getElem hl]
    congr 1
    omega
  have hx := h _ (List.getElem_mem hl)
  rw [rowNum_div h i (by omega), e, rowNum_snoc]
  omega
theorem rwd_pos {K : Nat} (hK : K ≤ 4) : ∀ {f n N : Nat}, n ≤ f → N / 4 ^ n = 1 → (∀ i, i < n → N / 4 ^ i % 4 < K) → ∃ r, rwd K f N = some r ∧ r.length = n
  | f, 0, N, _, h1, _ => by
    simp at h1
    refine ⟨[], ?_, rfl⟩
    cases f <;> (unfold rwd; rw [if_pos h1])
  | 0, n + 1, N, hn, _, _ => by omega
  | f + 1, n + 1, N, hn, h1, h2 => by
    have h3 : N / 4 / 4 ^ n = 1 := by rw [Nat.div_div_eq_div_mul, Nat.mul_comm, ← Nat.pow_succ]; exact h1
    obtain ⟨r, hr, hl⟩ := rwd_pos hK (f := f) (n := n) (N := N / 4) (by omega) h3 (fun i hi => by
      have := h2 (i + 1) (by omega)
      rw [Nat.pow_succ, Nat.mul_comm, ← Nat.div_div_eq_div_mul] at this
      exact this)
    have h4 : 4 ≤ N := by
      rcases Nat.lt_or_ge N 4 with q | q
      · rw [show N / 4 = 0 by omega, Nat.zero_div] at h3
        cases h3
      · exact q
    have h5 := h2 0 (by omega)
    simp at h5
    refine ⟨r ++ [N % 4], ?_, by simp [hl]⟩
    unfold rwd
    rw [if_neg (by omega), if_neg (by omega), hr]
    rfl
theorem pow4_uniq {N n m : Nat} (h1 : N / 4 ^ n = 1) (h2 : N / 4 ^ m = 1) : n = m := by
  have key : ∀ {a b : Nat}, N / 4 ^ a = 1 → N / 4 ^ b = 1 → ¬ a < b := fun {a b} ha hb q => by
    have e : 4 ^ b = 4 ^ a * 4 * 4 ^ (b - a - 1) := by rw [← Nat.pow_succ, ← Nat.pow_add]; congr 1; omega
    rw [e, ← Nat.div_div_eq_div_mul, ← Nat.div_div_eq_div_mul, ha] at hb
    simp at hb
  rcases Nat.lt_trichotomy n m with q | q | q
  · exact absurd q (key h1 h2)
  · exact q
  · exact absurd q (key h2 h1)
theorem rwd_len {K f N : Nat} (hK : K ≤ 4) {r : List Nat} (h : rwd K f N = some r) : r.length ≤ f ∧ N / 4 ^ r.length = 1 ∧ ∀ i, i < r.length → N / 4 ^ i % 4 < K := by
  obtain ⟨a1, a2, a3⟩ := rwd_spec h
  have h4 : ∀ x ∈ r, x < 4 := fun x hx => by have := a2 x hx; omega
  refine ⟨a1, ?_, fun i hi => ?_⟩
  · rw [← a3, rowNum_div h4 _ (Nat.le_refl _), Nat.sub_self]
    rfl
  · rw [← a3, rowNum_dig h4 hi]
    exact a2 _ (List.getElem_mem _)
