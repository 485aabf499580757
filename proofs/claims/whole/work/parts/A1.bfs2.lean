-- what the walk over all rows finds
section BF2
variable {M : xMac} {n : Nat} {ok : Nat → Bool} {f : Nat} {q : List Nat} {par tt dl : Nat → Nat}
theorem mk_at {M : xMac} {t : Nat} (ht : t < (mMarks M).length) : mk_ M t = (mMarks M)[t] := marks_getD ht
theorem getD_of {i p : Nat} (h : q[i]? = some p) : q.getD i 0 = p := by rw [List.getD_eq_getElem?_getD, h]; rfl
theorem bfs.rchq (b : bfs M n ok (fun _ => False) f q par tt dl q.length 0) : ∀ i p, q[i]? = some p → rch M n f (dl i) p := by
  intro i
  induction i using x_lt with
  | h i IH =>
    intro p hp
    obtain ⟨hi, hpe⟩ := List.getElem?_eq_some_iff.mp hp
    rcases Nat.eq_zero_or_pos i with e | e
    · subst e
      rw [b.2.1.1]
      have := b.1.1
      rw [hp] at this
      exact Option.some.inj this
    · obtain ⟨c1, -, c3, -, c5, c6⟩ := b.2.1.2 i e hi
      have hpar : q[par i]? = some (q.getD (par i) 0) := by
        rw [List.getD_eq_getElem?_getD, List.getElem?_eq_getElem (show par i < q.length by omega)]; rfl
      rw [c6]
      refine ⟨q.getD (par i) 0, IH (par i) c1 _ hpar, mk_ M (tt i), ?_, ?_⟩
      · rw [mk_at c3]; exact List.getElem_mem _
      · rw [hp] at c5; exact (Option.some.inj c5).symm
theorem bfs.low (b : bfs M n ok (fun _ => False) f q par tt dl q.length 0) (hok : ∀ m, ok m = true) : ∀ d p, rch M n f d p → ∃ i, q[i]? = some p ∧ dl i ≤ d := by
  intro d
  induction d with
  | zero => intro p hp; exact ⟨0, by rw [show p = f from hp]; exact b.1.1, by rw [b.2.1.1]; exact Nat.le_refl _⟩
  | succ d IH =>
    rintro p ⟨q', hq', m, hm, rfl⟩
    obtain ⟨i, hi, hd⟩ := IH q' hq'
    obtain ⟨hil, -⟩ := List.getElem?_eq_some_iff.mp hi
    obtain ⟨t, ht, rfl⟩ := List.getElem_of_mem hm
    rcases b.2.2.1 i t hil ht (Or.inl hil) (hok _) with r | ⟨i', r1, r2⟩
    · exact absurd r id
    · rw [mk_at ht, getD_of hi] at r1
      exact ⟨i', r1, by omega⟩
theorem nodup_at {i j p : Nat} (hn : q.Nodup) (h1 : q[i]? = some p) (h2 : q[j]? = some p) : i = j := by
  obtain ⟨a1, a2⟩ := List.getElem?_eq_some_iff.mp h1
  obtain ⟨b1, b2⟩ := List.getElem?_eq_some_iff.mp h2
  exact (List.getElem_inj hn).mp (a2.trans b2.symm)
theorem bfs.isDq (b : bfs M n ok (fun _ => False) f q par tt dl q.length 0) (hok : ∀ m, ok m = true) {i p : Nat} (hp : q[i]? = some p) : isD M n f p (dl i) := by
  refine ⟨b.rchq i p hp, fun k hk hr => ?_⟩
  obtain ⟨i', h1, h2⟩ := b.low hok k p hr
  have := nodup_at b.1.2.1 hp h1
  subst this
  omega
theorem bfs.dstq (b : bfs M n ok (fun _ => False) f q par tt dl q.length 0) (hok : ∀ m, ok m = true) {i p : Nat} (hp : q[i]? = some p) : dst M n f p = some (dl i) := dst_some (b.isDq hok hp)
theorem bfs.no (b : bfs M n ok (fun _ => False) f q par tt dl q.length 0) (hok : ∀ m, ok m = true) {p : Nat} (hp : p ∉ q) : dst M n f p = none := dst_none (fun d hd => by
  obtain ⟨i, hi, -⟩ := b.low hok d p hd.1
  exact hp (List.mem_of_getElem? hi))
theorem cnt_filter (c : Nat → Bool) : ∀ N, cnt c N = ((List.range N).filter c).length
  | 0 => rfl
  | N + 1 => by
    rw [List.range_succ, List.filter_append, List.length_append, ← cnt_filter c N]
    show cnt c N + cond (c N) 1 0 = _
    cases hq : c N <;> simp [hq]
theorem cnt_list {c : Nat → Bool} {N : Nat} (hn : q.Nodup) (h : ∀ p, p ∈ q ↔ p < N ∧ c p = true) : cnt c N = q.length := by
  rw [cnt_filter]
  refine Nat.le_antisymm (nodup_len ((List.nodup_range).filter _) (fun p hp => ?_)) (nodup_len hn (fun p hp => ?_))
  · obtain ⟨h1, h2⟩ := List.mem_filter.mp hp
    exact (h p).mpr ⟨List.mem_range.mp h1, h2⟩
  · obtain ⟨h1, h2⟩ := (h p).mp hp
    exact List.mem_filter.mpr ⟨List.mem_range.mpr h1, h2⟩
theorem bfs.orbNq (b : bfs M n ok (fun _ => False) f q par tt dl q.length 0) (hok : ∀ m, ok m = true) : orbN M n f = q.length := cnt_list b.1.2.1 (fun p => ⟨fun hp => ⟨(b.1.2.2 p hp).1, by
  obtain ⟨i, hi, e⟩ := List.getElem_of_mem hp
  rw [b.dstq hok (i := i) (by rw [List.getElem?_eq_getElem hi, e])]
  rfl⟩, fun ⟨h1, h2⟩ => Classical.byContradiction (fun hq => by rw [b.no hok hq] at h2; cases h2)⟩)
theorem mxd_le {D : Nat} : ∀ {k : Nat}, (∀ p, p < k → (dst M n f p).getD 0 ≤ D) → mxd M n f k ≤ D
  | 0, _ => Nat.zero_le _
  | k + 1, h => by
    have h1 := mxd_le (k := k) (fun p hp => h p (by omega))
    have h2 := h k (by omega)
    show max (mxd M n f k) _ ≤ D
    omega
theorem mxd_ge : ∀ {k p : Nat}, p < k → (dst M n f p).getD 0 ≤ mxd M n f k
  | 0, p, h => absurd h (Nat.not_lt_zero _)
  | k + 1, p, h => by
    show _ ≤ max (mxd M n f k) ((dst M n f k).getD 0)
    rcases Nat.lt_or_ge p k with e | e
    · have := mxd_ge (k := k) e; omega
    · have : p = k := by omega
      subst this
      omega
theorem bfs.mxdq (b : bfs M n ok (fun _ => False) f q par tt dl q.length 0) (hok : ∀ m, ok m = true) : mxd M n f (mK M ^ n) = dl (q.length - 1) := by
  have hl := b.len
  refine Nat.le_antisymm (mxd_le (fun p hp => ?_)) ?_
  · by_cases hq : p ∈ q
    · obtain ⟨i, hi, e⟩ := List.getElem_of_mem hq
      rw [b.dstq hok (i := i) (by rw [List.getElem?_eq_getElem hi, e])]
      exact b.2.2.2.1.1 i (q.length - 1) (by omega) (by omega)
    · rw [b.no hok hq]; exact Nat.zero_le _
  · have hi : q.length - 1 < q.length := by omega
    have := mxd_ge (M := M) (n := n) (f := f) (b.1.2.2 _ (List.getElem_mem hi)).1
    rw [b.dstq hok (List.getElem?_eq_getElem hi)] at this
    exact this
-- the way: the first one by the order of marks
theorem bfs.dl0 (b : bfs M n ok (fun _ => False) f q par tt dl q.length 0) {i : Nat} (hi : i < q.length) (h : dl i = 0) : i = 0 := by
  rcases Nat.eq_zero_or_pos i with e | e
  · exact e
  · have := (b.2.1.2 i e hi).2.2.2.2.2; omega
theorem bfs.dlp (b : bfs M n ok (fun _ => False) f q par tt dl q.length 0) {i : Nat} (hi : i < q.length) (h : 0 < dl i) : 0 < i ∧ par i < i ∧ dl (par i) + 1 = dl i := by
  have h0 : 0 < i := by
    rcases Nat.eq_zero_or_pos i with e | e
    · rw [e, b.2.1.1] at h; omega
    · exact e
  obtain ⟨c1, -, -, -, -, c6⟩ := b.2.1.2 i h0 hi
  exact ⟨h0, c1, c6.symm⟩
theorem bfs.anc (b : bfs M n ok (fun _ => False) f q par tt dl q.length 0) : ∀ r i, i < q.length → r ≤ dl i → itr par r i < q.length ∧ dl (itr par r i) + r = dl i
  | 0, i, hi, _ => ⟨hi, rfl⟩
  | r + 1, i, hi, hr => by
    obtain ⟨h1, h2, h3⟩ := b.dlp hi (by omega)
    obtain ⟨g1, g2⟩ := b.anc r (par i) (by omega) (by omega)
    exact ⟨g1, by show dl (itr par r (par i)) + (r + 1) = dl i; omega⟩
theorem bfs.mono (b : bfs M n ok (fun _ => False) f q par tt dl q.length 0) : ∀ r i i', i ≤ i' → i' < q.length → r ≤ dl i → r ≤ dl i' → itr par r i ≤ itr par r i'
  | 0, i, i', h, _, _, _ => h
  | r + 1, i, i', h, hi', hr, hr' => by
    obtain ⟨h1, h2, h3⟩ := b.dlp (i := i) (by omega) (by omega)
    obtain ⟨g1, g2, g3⟩ := b.dlp hi' (by omega)
    have hp : par i ≤ par i' := by
      rcases Nat.lt_or_ge i i' with e | e
      · have := b.2.2.2.2.1 i i' h1 e hi'
        omega
      · have : i = i' := by omega
        rw [this]; exact Nat.le_refl _
    exact b.mono r (par i) (par i') hp (by omega) (by omega) (by omega)
/-- who leads to a row stands no later than the one that it came from -/
theorem bfs.par_le (b : bfs M n ok (fun _ => False) f q par tt dl q.length 0) (hok : ∀ m, ok m = true) {i j : Nat} {m : Nat} (hm : m ∈ mMarks M) (hi : i < q.length) (hi0 : 0 < i) (hj : j < q.length) (he : q[i]? = some (mkp M n m (q.getD j 0))) : par i ≤ j := by
  refine Nat.not_lt.mp (fun hlt => ?_)
  obtain ⟨t, ht, rfl⟩ := List.getElem_of_mem hm
  rcases b.2.2.2.2.2 i hi0 hi j t ht (Or.inl hlt) (hok _) with r | ⟨i', r1, r2⟩
  · exact r
  · rw [mk_at ht] at r2
    have := nodup_at b.1.2.1 he r2
    omega
theorem bfs.chain (b : bfs M n ok (fun _ => False) f q par tt dl q.length 0) (hok : ∀ m, ok m = true) : ∀ r a g jg w, q[a]? = some w → q[jg]? = some g → rch M n w r g → dl jg = dl a + r → itr par r jg ≤ a
  | 0, a, g, jg, w, ha, hg, hr, _ => by
    have : g = w := hr
    subst this
    have := nodup_at b.1.2.1 ha hg
    rw [← this]; exact Nat.le_refl _
  | r + 1, a, g, jg, w, ha, hg, hr, hd => by
    obtain ⟨x, hx, m, hm, e⟩ := hr
    have hwr := b.rchq a w ha
    have hxr : rch M n f (dl a + r) x := rt_rch (rt_iff.mpr hx) hwr
    obtain ⟨jx, hjx, hdx⟩ := b.low hok _ _ hxr
    obtain ⟨hjxl, -⟩ := List.getElem?_eq_some_iff.mp hjx
    obtain ⟨hjgl, -⟩ := List.getElem?_eq_some_iff.mp hg
    have hgD := b.isDq hok hg
    have hdx2 : dl jx = dl a + r := by
      have h1 : rch M n f (dl jx + 1) g := ⟨x, b.rchq jx x hjx, m, hm, e⟩
      have : ¬ dl jx + 1 < dl jg := fun q => hgD.2 _ q h1
      omega
    have IH := b.chain hok r a x jx w ha hjx hx hdx2
    obtain ⟨p0, p1, p2⟩ := b.dlp hjgl (by omega)
    have hple : par jg ≤ jx := b.par_le hok hm hjgl p0 hjxl (by rw [hg, getD_of hjx, e])
    have := b.mono r (par jg) jx hple hjxl (by omega) (by omega)
    exact Nat.le_trans this IH
theorem bfs.wmq (b : bfs M n ok (fun _ => False) f q par tt dl q.length 0) (hok : ∀ m, ok m = true) {jg g : Nat} (hg : q[jg]? = some g) {s : Nat} (hs : s < dl jg) : wm M n g (q.getD (itr par (dl jg - s) jg) 0) (dl jg - s - 1) = mk_ M (tt (itr par (dl jg - s - 1) jg)) ∧ mkp M n (mk_ M (tt (itr par (dl jg - s - 1) jg))) (q.getD (itr par (dl jg - s) jg) 0) = q.getD (itr par (dl jg - s - 1) jg) 0 := by
  obtain ⟨hjgl, -⟩ := List.getElem?_eq_some_iff.mp hg
  obtain ⟨e, he⟩ : ∃ e, dl jg - s = e + 1 := ⟨dl jg - s - 1, by omega⟩
  rw [he, Nat.add_sub_cancel]
  obtain ⟨c1, c2⟩ := b.anc e jg hjgl (by omega)
  generalize hc : itr par e jg = c at *
  have hpc : itr par (e + 1) jg = par c := by rw [itr_succ, hc]
  rw [hpc]
  obtain ⟨d1, d2, d3⟩ := b.dlp c1 (by omega)
  obtain ⟨-, -, t3, -, t5, -⟩ := b.2.1.2 c d1 c1
  have hpat : q[par c]? = some (q.getD (par c) 0) := by
    rw [List.getD_eq_getElem?_getD, List.getElem?_eq_getElem (show par c < q.length by omega)]; rfl
  generalize hu : q.getD (par c) 0 = u at *
  have hstep : mkp M n (mk_ M (tt c)) u = q.getD c 0 := by rw [getD_of t5]
  refine ⟨?_, hstep⟩
  -- the tree's way from here to the goal
  have htree : ∀ r, r ≤ dl jg → ∀ x, q[itr par r jg]? = some x → rt M n g r x := by
    intro r
    induction r with
    | zero => intro _ x hx; rw [show itr par 0 jg = jg from rfl, hg] at hx; exact (Option.some.inj hx).symm
    | succ r IH =>
      intro hr x hx
      obtain ⟨a1, a2⟩ := b.anc r jg hjgl (by omega)
      obtain ⟨p1, p2, p3⟩ := b.dlp a1 (by omega)
      obtain ⟨-, -, v3, -, v5, -⟩ := b.2.1.2 _ p1 a1
      rw [itr_succ] at hx
      rw [getD_of hx] at v5
      exact ⟨mk_ M (tt (itr par r jg)), by rw [mk_at v3]; exact List.getElem_mem _, IH (by omega) _ v5⟩
  have hfar : ∀ {x k i}, q[i]? = some x → rch M n x k g → dl jg ≤ dl i + k := fun {x k i} hx hr => by
    refine Nat.not_lt.mp (fun hlt => (b.isDq hok hg).2 _ hlt ?_)
    exact rt_rch (rt_iff.mpr hr) (b.rchq _ _ hx)
  have hD : isD M n u g (e + 1) := by
    refine ⟨rt_iff.mp (htree (e + 1) (by omega) u (by rw [hpc]; exact hpat)), fun k hk hr => ?_⟩
    have := hfar hpat hr
    omega
  obtain ⟨t, ht, h1, h2, h3⟩ := wm_at hD
  rw [← h1]
  have hle : t ≤ tt c := by
    refine Nat.not_lt.mp (fun hlt => h3 (tt c) t3 hlt ?_)
    rw [← mk_at t3]
    have hcat : q[c]? = some (q.getD c 0) := by
      rw [List.getD_eq_getElem?_getD, List.getElem?_eq_getElem c1]; rfl
    refine ⟨?_, fun k hk hr => ?_⟩
    · rw [hstep]
      exact rt_iff.mp (htree e (by omega) _ (by rw [hc]; exact hcat))
    · rw [hstep] at hr
      have := hfar hcat hr
      omega
  have hge : ¬ t < tt c := fun hlt => by
    rcases b.2.2.2.2.2 c d1 c1 (par c) t ht (Or.inr ⟨rfl, hlt⟩) (hok _) with r | ⟨i', r1, r2⟩
    · exact r
    · rw [hu, mk_at ht, h1] at r2
      obtain ⟨hi'l, -⟩ := List.getElem?_eq_some_iff.mp r2
      have f1 := hfar r2 h2.1
      have f2 : dl i' ≤ dl (par c) + 1 := by
        have hr : rch M n f (dl (par c) + 1) (mkp M n (wm M n g u e) u) := ⟨u, b.rchq _ _ hpat, _, by rw [← h1]; exact List.getElem_mem _, rfl⟩
        exact Nat.not_lt.mp (fun q => (b.isDq hok r2).2 _ q hr)
      have := b.chain hok e i' g jg _ r2 hg h2.1 (by omega)
      rw [hc] at this
      omega
  have : t = tt c := by omega
  subst this
  rw [mk_at ht]
theorem bfs.way (b : bfs M n ok (fun _ => False) f q par tt dl q.length 0) (hok : ∀ m, ok m = true) {jg g : Nat} (hg : q[jg]? = some g) : ∀ i s, s + i < dl jg → wayAt M n g i (q.getD (itr par (dl jg - s) jg) 0) (dl jg - s) = mk_ M (tt (itr par (dl jg - s - i - 1) jg))
  | 0, s, h => by
    obtain ⟨e, he⟩ : ∃ e, dl jg - s = e + 1 := ⟨dl jg - s - 1, by omega⟩
    have := (b.wmq hok hg (s := s) (by omega)).1
    rw [he] at this ⊢
    exact this
  | i + 1, s, h => by
    obtain ⟨e, he⟩ : ∃ e, dl jg - s = e + 1 := ⟨dl jg - s - 1, by omega⟩
    obtain ⟨w1, w2⟩ := b.wmq hok hg (s := s) (by omega)
    have IH := b.way hok hg i (s + 1) (by omega)
    rw [show dl jg - (s + 1) = dl jg - s - 1 by omega, ← w2, ← w1] at IH
    rw [he, Nat.add_sub_cancel] at IH
    rw [he]
    show wayAt M n g i (mkp M n (wm M n g (q.getD (itr par (e + 1) jg) 0) e) (q.getD (itr par (e + 1) jg) 0)) e = _
    rw [IH]
    congr 3
    omega
end BF2
