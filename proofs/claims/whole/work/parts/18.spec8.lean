/-- a row of at most f letters below K, by its number -/
def rwd (K : Nat) : Nat → Nat → Option (List Nat)
  | 0, N => if N = 1 then some [] else none
  | f + 1, N => if N = 1 then some [] else if N < 4 ∨ K ≤ N % 4 then none else (rwd K f (N / 4)).map (fun r => r ++ [N % 4])
def rowOf (K : Nat) (v : Int32) : Option (List Nat) := if v.toInt < 1 then none else rwd K 10 (w2n v)
theorem rowNum_snoc (r : List Nat) (x : Nat) : rowNum (r ++ [x]) = 4 * rowNum r + x := by simp [rowNum, List.foldl_append]
theorem rwd_spec {K : Nat} : ∀ {f N : Nat} {r : List Nat}, rwd K f N = some r → r.length ≤ f ∧ (∀ x ∈ r, x < K) ∧ rowNum r = N
  | 0, N, r, h => by
    unfold rwd at h
    split at h
    · cases h; rename_i e; exact ⟨by simp, fun x hx => (by cases hx), by rw [e]; rfl⟩
    · cases h
  | f + 1, N, r, h => by
    unfold rwd at h
    split at h
    · cases h; rename_i e; exact ⟨by simp, fun x hx => (by cases hx), by rw [e]; rfl⟩
    · split at h
      · cases h
      · rename_i h1 h2
        cases hr : rwd K f (N / 4) with
        | none => rw [hr] at h; cases h
        | some q =>
          rw [hr] at h
          have h : q ++ [N % 4] = r := Option.some.inj h
          subst h
          obtain ⟨a1, a2, a3⟩ := rwd_spec hr
          refine ⟨by simp; omega, fun x hx => ?_, by rw [rowNum_snoc, a3]; omega⟩
          rcases List.mem_append.mp hx with h | h
          · exact a2 x h
          · rw [List.mem_singleton.mp h]; omega
theorem rowNum_pos (r : List Nat) : 1 ≤ rowNum r := by
  have key : ∀ (r : List Nat) (a : Nat), 1 ≤ a → 1 ≤ r.foldl (fun a x => 4 * a + x) a := by
    intro r
    induction r with
    | nil => intro a h; exact h
    | cons x r IH => intro a h; exact IH (4 * a + x) (by omega)
  exact key r 1 (by decide)
theorem lrev {P : List Nat → Prop} (h0 : P []) (hs : ∀ r x, P r → P (r ++ [x])) : ∀ r, P r := by
  have key : ∀ l : List Nat, P l.reverse := by
    intro l
    induction l with
    | nil => exact h0
    | cons x l IH => rw [List.reverse_cons]; exact hs _ _ IH
  intro r
  have := key r.reverse
  rwa [List.reverse_reverse] at this
theorem rowNum_lt : ∀ (r : List Nat), (∀ x ∈ r, x < 4) → rowNum r < 2 * 4 ^ r.length := by
  refine lrev ?_ ?_
  · intro _; simp [rowNum]
  · intro r x IH h
    have h1 := IH (fun y hy => h y (List.mem_append_left _ hy))
    have h2 := h x (List.mem_append_right _ (List.mem_singleton.mpr rfl))
    rw [rowNum_snoc, List.length_append, List.length_singleton, Nat.pow_succ]
    omega
theorem rowOf_some {K : Nat} {v : Int32} {r : List Nat} (h : rowOf K v = some r) : r.length ≤ 10 ∧ (∀ x ∈ r, x < K) ∧ v = nI (rowNum r) := by
  unfold rowOf at h
  split at h
  · cases h
  · rename_i hv
    obtain ⟨a1, a2, a3⟩ := rwd_spec h
    exact ⟨a1, a2, by rw [a3, nI_w2n (by rw [lt_toInt, ti_0]; omega)]⟩
def mRw (I : xI) (r : List Nat) : Prop := I 77 16 = nI r.length ∧ lrep (I 88) 0 r nI
/-- the part at a row -/
def wparts (M : xMac) (w : List Nat) (r : List Nat) : List Nat := r.foldl (fun w x => wpart M w x) w
theorem wpart_inv {M : xMac} (hM : mOk M) (hwh : mWhole M) (hmw : ∀ {m x : Nat}, mOkm M m → x < mK M → mw M m x < mK M) (hmg : ∀ {m x g : Nat}, mOkm M m → x < mK M → mg M m x = some g → mOkm M g) : ∀ (ws : List Nat) (x : Nat) (acc : List Nat), wOk M ws → x < mK M → wOk M acc → wRed acc → (ws.foldl (wpartF M) (x, acc)).1 < mK M ∧ wOk M (ws.foldl (wpartF M) (x, acc)).2 ∧ wRed (ws.foldl (wpartF M) (x, acc)).2 ∧ (ws.foldl (wpartF M) (x, acc)).2.length ≤ acc.length + ws.length := by
  intro ws
  induction ws with
  | nil => intro x acc _ hx ha hr; exact ⟨hx, ha, hr, by simp⟩
  | cons m ws IH =>
    intro x acc hw hx ha hr
    have hm := hw m List.mem_cons_self
    have hw' : wOk M ws := fun q hq => hw q (List.mem_cons_of_mem _ hq)
    rw [List.foldl_cons]
    have hstep : wpartF M (x, acc) m = (mw M m x, wpushO acc (mg M m x)) := rfl
    rw [hstep]
    cases hg : mg M m x with
    | none =>
      obtain ⟨a1, a2, a3, a4⟩ := IH (mw M m x) acc hw' (hmw hm hx) ha hr
      exact ⟨a1, a2, a3, by rw [List.length_cons]; show _ ≤ _; have : (List.foldl (wpartF M) (mw M m x, wpushO acc none) ws) = (List.foldl (wpartF M) (mw M m x, acc) ws) := rfl; rw [this]; omega⟩
    | some g =>
      obtain ⟨a1, a2, a3, a4⟩ := IH (mw M m x) (wpush acc g) hw' (hmw hm hx) (ha.push (hmg hm hx hg)) (hr.push g)
      have := wpush_len acc g
      exact ⟨a1, a2, a3, by rw [List.length_cons]; have : (List.foldl (wpartF M) (mw M m x, wpushO acc (some g)) ws) = (List.foldl (wpartF M) (mw M m x, wpush acc g) ws) := rfl; rw [this]; omega⟩
noncomputable def sp_act (S : xSt) (spot row : Int32) : Int32 := match ix spot 8, rowOf (mK S.2.1) row with
  | some w, some r => if mW S.2.1 = false then -5 else nI (rowNum (wact S.2.1 (S.2.2 w) r))
  | _, _ => -1
noncomputable def sp_part (S : xSt) (a row to : Int32) : Int32 × xSt := match ix a 8, rowOf (mK S.2.1) row, ix to 8 with
  | some a, some r, some to => if mW S.2.1 = false then (-5, S) else (nI (wparts S.2.1 (S.2.2 a) r).length, (S.1, S.2.1, va_up S.2.2 to (wparts S.2.1 (S.2.2 a) r)))
  | _, _, _ => (-1, S)
theorem ptoks_take {a b c d : Int32} {n : Nat} (hn : n ≤ 4) (h1 : ∀ j, j < n → [a, b, c, d].getD j 0 ≠ 0) (h2 : n < 4 → [a, b, c, d].getD n 0 = 0) : ptoks a b c d = [a, b, c, d].take n := by
  unfold ptoks
  rcases (show n = 0 ∨ n = 1 ∨ n = 2 ∨ n = 3 ∨ n = 4 by omega) with rfl | rfl | rfl | rfl | rfl
  · have := h2 (by decide); simp at this; simp [List.takeWhile_cons, this]
  · have := h2 (by decide); have q0 := h1 0 (by decide); simp at this q0; simp [List.takeWhile_cons, this, q0]
  · have := h2 (by decide); have q0 := h1 0 (by decide); have q1 := h1 1 (by decide); simp at this q0 q1; simp [List.takeWhile_cons, this, q0, q1]
  · have := h2 (by decide); have q0 := h1 0 (by decide); have q1 := h1 1 (by decide); have q2 := h1 2 (by decide); simp at this q0 q1 q2; simp [List.takeWhile_cons, this, q0, q1, q2]
  · have q0 := h1 0 (by decide); have q1 := h1 1 (by decide); have q2 := h1 2 (by decide); have q3 := h1 3 (by decide); simp at q0 q1 q2 q3; simp [List.takeWhile_cons, q0, q1, q2, q3]
/-- a token that is a number of a state, as a mark -/
theorem t2m_tok {t : Int32} {n : Nat} (hn : n ≤ 8) (h0 : t ≠ 0) (h1 : -(n : Int) ≤ t.toInt) (h2 : t.toInt ≤ n) : tok (t2m t) = t ∧ t2m t / 2 < n ∧ (t2m t % 2 = 1 ↔ t.toInt < 0) ∧ (t.toInt < 0 → t2m t / 2 = (-t.toInt).toNat - 1) := by
  have h0' : t.toInt ≠ 0 := fun e => h0 (Int32.toInt_inj.mp (by rw [e, ti_0]))
  unfold t2m
  split
  · rename_i hp
    refine ⟨?_, by omega, by omega, by omega⟩
    apply Int32.toInt_inj.mp
    rw [tok_toInt (by omega), if_pos (by omega)]
    omega
  · rename_i hp
    refine ⟨?_, by omega, by omega, by omega⟩
    apply Int32.toInt_inj.mp
    rw [tok_toInt (by omega), if_neg (by omega)]
    omega
theorem lrep.mid {f : Nat → Int32} {o : Nat} {pre rest : List Nat} {x y : Nat} {g : Nat → Int32} (h : lrep f o (pre ++ x :: rest) g) {v : Int32} (hv : v = g y) : lrep (upd f (o + pre.length) v) o (pre ++ y :: rest) g := by
  intro i hi
  by_cases e : i = pre.length
  · subst e
    rw [upd_same, hv]
    simp
  · rw [upd_ne _ _ (by omega), h i (by simpa using hi)]
    congr 1
    by_cases hl : i < pre.length
    · rw [List.getElem_append_left hl, List.getElem_append_left hl]
    · rw [List.getElem_append_right (by omega), List.getElem_append_right (by omega)]
      have hpos : ∃ k, i - pre.length = k + 1 := ⟨i - pre.length - 1, by omega⟩
      obtain ⟨k, hk⟩ := hpos
      simp [hk]
