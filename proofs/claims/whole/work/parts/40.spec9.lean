theorem nodup_len {α : Type} : ∀ {a b : List α}, a.Nodup → (∀ w ∈ a, w ∈ b) → a.length ≤ b.length
  | [], b, _, _ => Nat.zero_le _
  | x :: a, b, hn, hs => by
    rw [List.nodup_cons] at hn
    have hx := hs x List.mem_cons_self
    obtain ⟨s, t, rfl⟩ := List.append_of_mem hx
    have := nodup_len (a := a) (b := s ++ t) hn.2 (fun w hw => by
      have h1 := hs w (List.mem_cons_of_mem _ hw)
      have hne : w ≠ x := fun e => hn.1 (e ▸ hw)
      rw [List.mem_append, List.mem_cons] at h1
      rw [List.mem_append]
      rcases h1 with h | h | h
      · exact Or.inl h
      · exact absurd h hne
      · exact Or.inr h)
    simp only [List.length_append, List.length_cons] at this ⊢
    omega
-- the heap of some words
def wReach (M : xMac) (A : List (List Nat)) (w : List Nat) : Prop := ∃ a ∈ A, ∃ r, rOk M r ∧ w = wparts M a r
theorem wReach.part {M : xMac} {A : List (List Nat)} {w : List Nat} (h : wReach M A w) {x : Nat} (hx : x < mK M) : wReach M A (wpart M w x) := by
  obtain ⟨a, ha, r, hr, rfl⟩ := h
  refine ⟨a, ha, r ++ [x], fun y hy => ?_, by simp [wparts, List.foldl_append]⟩
  rcases List.mem_append.mp hy with h | h
  · exact hr y h
  · rw [List.mem_singleton.mp h]; exact hx
theorem wReach.self {M : xMac} {A : List (List Nat)} {a : List Nat} (h : a ∈ A) : wReach M A a := ⟨a, h, [], (fun x hx => by cases hx), rfl⟩
/-- a list that is closed by parts -/
def hClo (M : xMac) (hs : List (List Nat)) : Prop := ∀ a ∈ hs, ∀ x, x < mK M → wpart M a x ∈ hs
theorem hClo.reach {M : xMac} {hs A : List (List Nat)} (hc : hClo M hs) (hA : ∀ a ∈ A, a ∈ hs) {w : List Nat} (h : wReach M A w) : w ∈ hs := by
  obtain ⟨a, ha, r, hr, rfl⟩ := h
  have key : ∀ r : List Nat, rOk M r → wparts M a r ∈ hs := by
    refine lrev ?_ ?_
    · intro _; exact hA a ha
    · intro r x IH hrk
      have := hc _ (IH (fun y hy => hrk y (List.mem_append_left _ hy))) x (hrk x (List.mem_append_right _ (List.mem_singleton.mpr rfl)))
      simpa [wparts, List.foldl_append] using this
  exact key r hr
/-- a list of the heap of A, each once -/
def isHp (M : xMac) (A hs : List (List Nat)) : Prop := hs.Nodup ∧ ∀ w, w ∈ hs ↔ wReach M A w
theorem isHp.len {M : xMac} {A a b : List (List Nat)} (h1 : isHp M A a) (h2 : isHp M A b) : a.length = b.length := Nat.le_antisymm (nodup_len h1.1 (fun w hw => (h2.2 w).mpr ((h1.2 w).mp hw))) (nodup_len h2.1 (fun w hw => (h1.2 w).mpr ((h2.2 w).mp hw)))
/-- the heap has at most 200 words -/
def hFits (M : xMac) (A : List (List Nat)) : Prop := ∃ hs, isHp M A hs ∧ hs.length ≤ 200
noncomputable def hF (M : xMac) (A : List (List Nat)) : Bool := @decide (hFits M A) (Classical.propDecidable _)
theorem hF_iff {M : xMac} {A : List (List Nat)} : hF M A = true ↔ hFits M A := by simp [hF]
theorem hF_f {M : xMac} {A : List (List Nat)} : hF M A = false ↔ ¬ hFits M A := by simp [hF]
theorem hFits.no {M : xMac} {A hs : List (List Nat)} (hn : hs.Nodup) (hr : ∀ w ∈ hs, wReach M A w) (hl : 200 < hs.length) : ¬ hFits M A := by
  rintro ⟨b, hb, hbl⟩
  have := nodup_len hn (fun w hw => (hb.2 w).mpr (hr w hw))
  omega
noncomputable def hpOf (M : xMac) (A : List (List Nat)) : List (List Nat) := @dite _ (hFits M A) (Classical.propDecidable _) (fun h => Classical.choose h) (fun _ => [])
theorem hpOf_is {M : xMac} {A : List (List Nat)} (h : hFits M A) : isHp M A (hpOf M A) := by
  unfold hpOf
  rw [dif_pos h]
  exact (Classical.choose_spec h).1
/-- alike: the same on all rows -/
def wAl (M : xMac) (a b : List Nat) : Prop := ∀ n, wEqn M n a b
noncomputable def wA (M : xMac) (a b : List Nat) : Bool := @decide (wAl M a b) (Classical.propDecidable _)
theorem wA_iff {M : xMac} {a b : List Nat} : wA M a b = true ↔ wAl M a b := by simp [wA]
theorem wAl.rf {M : xMac} (a : List Nat) : wAl M a a := fun n => wEqn.rf n a
theorem wAl.sy {M : xMac} {a b : List Nat} (h : wAl M a b) : wAl M b a := fun n => (h n).sy
theorem wAl.tr {M : xMac} {a b c : List Nat} (h : wAl M a b) (k : wAl M b c) : wAl M a c := fun n => (h n).tr (k n)
theorem cnt_eq {c c' : Nat → Bool} {n : Nat} (h : ∀ t, t < n → c t = true → c' t = true) (hle : cnt c' n ≤ cnt c n) {t : Nat} (ht : t < n) (h' : c' t = true) : c t = true := by
  cases hq : c t with
  | true => rfl
  | false => have := cnt_lt h ht hq h'; omega
/-- where a round parts none, no later one does -/
theorem stb {M : xMac} {hs : List (List Nat)} {l : Nat} (hst : ncl M hs (l + 1) ≤ ncl M hs l) {g h : Nat} (hg : g < hs.length) (hh : h < hs.length) (he : wEqn M l (hs.getD g []) (hs.getD h [])) : wEqn M (l + 1) (hs.getD g []) (hs.getD h []) := by
  have fst : ∀ k, k < hs.length → ∃ j, j ≤ k ∧ wEqn M (l + 1) (hs.getD j []) (hs.getD k []) ∧ wFst M hs l j = true := by
    intro k hk
    obtain ⟨j, hj, hmin⟩ := pk_least (fun j => wEqn M (l + 1) (hs.getD j []) (hs.getD k [])) ⟨k, wEqn.rf _ _⟩
    have hjk : j ≤ k := Nat.not_lt.mp (fun q => hmin k q (wEqn.rf _ _))
    refine ⟨j, hjk, hj, cnt_eq (c' := wFst M hs (l + 1)) (n := hs.length) (fun t _ q => wFst_iff.mpr (fun g hg q2 => wFst_iff.mp q g hg q2.pred)) hst (by omega) ?_⟩
    exact wFst_iff.mpr (fun i hi q => hmin i hi (q.tr hj))
  obtain ⟨a, ha1, ha2, ha3⟩ := fst g hg
  obtain ⟨b, hb1, hb2, hb3⟩ := fst h hh
  have hab : wEqn M l (hs.getD a []) (hs.getD b []) := (ha2.pred.tr he).tr hb2.pred.sy
  have : a = b := by
    rcases Nat.lt_trichotomy a b with q | q | q
    · exact absurd hab (wFst_iff.mp hb3 a q)
    · exact q
    · exact absurd hab.sy (wFst_iff.mp ha3 b q)
  subst this
  exact ha2.sy.tr hb2
theorem stb_al {M : xMac} {hs : List (List Nat)} {l : Nat} (hc : hClo M hs) (hst : ncl M hs (l + 1) ≤ ncl M hs l) {a b : List Nat} (ha : a ∈ hs) (hb : b ∈ hs) : wEqn M (l + 1) a b ↔ wAl M a b := by
  refine ⟨fun h n => ?_, fun h => h _⟩
  have one : ∀ a b, a ∈ hs → b ∈ hs → wEqn M l a b → wEqn M (l + 1) a b := by
    intro a b ha hb h
    obtain ⟨i, hi, rfl⟩ := List.getElem_of_mem ha
    obtain ⟨j, hj, rfl⟩ := List.getElem_of_mem hb
    have := stb hst hi hj
    rw [getD_lt hi, getD_lt hj] at this
    exact this h
  have all : ∀ k a b, a ∈ hs → b ∈ hs → wEqn M l a b → wEqn M (l + k) a b := by
    intro k
    induction k with
    | zero => intro a b _ _ h; exact h
    | succ k IH =>
      intro a b ha hb h x hx
      have h1 := one a b ha hb h x hx
      exact ⟨h1.1, IH _ _ (hc a ha x hx) (hc b hb x hx) h1.2⟩
  have down : ∀ k n, wEqn M (n + k) a b → wEqn M n a b := by
    intro k
    induction k with
    | zero => intro n h; exact h
    | succ k IH => intro n h; exact IH n h.pred
  exact down l n (by rw [Nat.add_comm]; exact all n a b ha hb h.pred)
-- how many are unlike: by a row of unlike ones
def isTr (M : xMac) (S : List Nat → Prop) (T : List (List Nat)) : Prop := (∀ t ∈ T, S t) ∧ T.Pairwise (fun a b => ¬ wAl M a b) ∧ ∀ s, S s → ∃ t ∈ T, wAl M s t
theorem tr_le {M : xMac} : ∀ {T U : List (List Nat)}, T.Pairwise (fun a b => ¬ wAl M a b) → (∀ t ∈ T, ∃ u ∈ U, wAl M t u) → T.length ≤ U.length
  | [], U, _, _ => Nat.zero_le _
  | x :: T, U, hp, hs => by
    rw [List.pairwise_cons] at hp
    obtain ⟨u, hu, hxu⟩ := hs x List.mem_cons_self
    obtain ⟨s, t, rfl⟩ := List.append_of_mem hu
    have := tr_le (T := T) (U := s ++ t) hp.2 (fun w hw => by
      obtain ⟨v, hv, hwv⟩ := hs w (List.mem_cons_of_mem _ hw)
      rw [List.mem_append, List.mem_cons] at hv
      rcases hv with h | h | h
      · exact ⟨v, List.mem_append_left _ h, hwv⟩
      · subst h
        exact absurd (hxu.tr hwv.sy) (hp.1 w hw)
      · exact ⟨v, List.mem_append_right _ h, hwv⟩)
    simp only [List.length_append, List.length_cons] at this ⊢
    omega
theorem isTr.len {M : xMac} {S : List Nat → Prop} {T U : List (List Nat)} (h1 : isTr M S T) (h2 : isTr M S U) : T.length = U.length := Nat.le_antisymm (tr_le h1.2.1 (fun t ht => h2.2.2 t (h1.1 t ht))) (tr_le h2.2.1 (fun t ht => h1.2.2 t (h2.1 t ht)))
/-- how many of a set are unlike -/
noncomputable def nUn (M : xMac) (S : List Nat → Prop) : Nat := @dite _ (∃ T, isTr M S T) (Classical.propDecidable _) (fun h => (Classical.choose h).length) (fun _ => 0)
theorem nUn_is {M : xMac} {S : List Nat → Prop} {T : List (List Nat)} (h : isTr M S T) : nUn M S = T.length := by
  unfold nUn
  rw [dif_pos ⟨T, h⟩]
  exact (Classical.choose_spec (⟨T, h⟩ : ∃ T, isTr M S T)).len h
/-- the first ones of the classes are such a row -/
theorem cls_tr {M : xMac} {hs : List (List Nat)} {n : Nat} (hal : ∀ a ∈ hs, ∀ b ∈ hs, wEqn M n a b ↔ wAl M a b) : ∀ m, m ≤ hs.length → ∃ T : List (List Nat), T.length = cnt (wFst M hs n) m ∧ (∀ t ∈ T, t ∈ hs) ∧ T.Pairwise (fun a b => ¬ wAl M a b) ∧ (∀ k, k < m → ∃ t ∈ T, wAl M (hs.getD k []) t) ∧ ∀ t ∈ T, ∃ k, k < m ∧ t = hs.getD k [] := by
  intro m
  induction m with
  | zero => intro _; exact ⟨[], rfl, (fun t h => by cases h), List.Pairwise.nil, (fun k h => by omega), (fun t h => by cases h)⟩
  | succ m IH =>
    intro hm
    obtain ⟨T, t1, t2, t3, t4, t5⟩ := IH (by omega)
    have hmem : hs.getD m [] ∈ hs := by rw [getD_lt (by omega)]; exact List.getElem_mem _
    cases hq : wFst M hs n m with
    | true =>
      have hf := wFst_iff.mp hq
      refine ⟨T ++ [hs.getD m []], ?_, fun t ht => ?_, ?_, fun k hk => ?_, fun t ht => ?_⟩
      · show _ = cnt _ m + cond (wFst M hs n m) 1 0
        rw [hq, List.length_append, t1]; rfl
      · rcases List.mem_append.mp ht with h | h
        · exact t2 t h
        · rw [List.mem_singleton.mp h]; exact hmem
      · rw [List.pairwise_append]
        refine ⟨t3, by simp, fun a ha b hb => ?_⟩
        rw [List.mem_singleton.mp hb]
        obtain ⟨k, hk, rfl⟩ := t5 a ha
        exact fun q => hf k hk ((hal _ (t2 _ ha) _ hmem).mpr q)
      · by_cases e : k = m
        · subst e; exact ⟨_, List.mem_append_right _ (List.mem_singleton.mpr rfl), wAl.rf _⟩
        · obtain ⟨t, ht, hq⟩ := t4 k (by omega)
          exact ⟨t, List.mem_append_left _ ht, hq⟩
      · rcases List.mem_append.mp ht with h | h
        · obtain ⟨k, hk, e⟩ := t5 t h
          exact ⟨k, by omega, e⟩
        · exact ⟨m, by omega, List.mem_singleton.mp h⟩
    | false =>
      refine ⟨T, ?_, t2, t3, fun k hk => ?_, fun t ht => ?_⟩
      · show _ = cnt _ m + cond (wFst M hs n m) 1 0
        rw [hq, t1]; rfl
      · by_cases e : k = m
        · subst e
          have : ¬ ∀ g, g < k → ¬ wEqn M n (hs.getD g []) (hs.getD k []) := fun q => by rw [wFst_iff.mpr q] at hq; cases hq
          have : ∃ g, g < k ∧ wEqn M n (hs.getD g []) (hs.getD k []) := Classical.byContradiction (fun q => this (fun g hg hh => q ⟨g, hg, hh⟩))
          obtain ⟨g, hg, hge⟩ := this
          obtain ⟨t, ht, hta⟩ := t4 g hg
          have hgm : hs.getD g [] ∈ hs := by rw [getD_lt (by omega)]; exact List.getElem_mem _
          exact ⟨t, ht, ((hal _ hgm _ hmem).mp hge).sy.tr hta⟩
        · exact t4 k (by omega)
      · obtain ⟨k, hk, e⟩ := t5 t ht
        exact ⟨k, by omega, e⟩
theorem ncl_nUn {M : xMac} {hs : List (List Nat)} {n : Nat} (hal : ∀ a ∈ hs, ∀ b ∈ hs, wEqn M n a b ↔ wAl M a b) {S : List Nat → Prop} (hS : ∀ w, w ∈ hs ↔ S w) : ncl M hs n = nUn M S := by
  obtain ⟨T, t1, t2, t3, t4, -⟩ := cls_tr hal hs.length (Nat.le_refl _)
  have : isTr M S T := ⟨fun t ht => (hS t).mp (t2 t ht), t3, fun s hs' => by
    obtain ⟨k, hk, rfl⟩ := List.getElem_of_mem ((hS s).mpr hs')
    have := t4 k hk
    rw [getD_lt hk] at this
    exact this⟩
  rw [nUn_is this, t1]
  rfl
-- what the calls answer: heaps
noncomputable def sp_two (S : xSt) (a b : Int32) : Int32 := match ix a 8, ix b 8 with
  | some a, some b => if mW S.2.1 = false then -5 else if hF S.2.1 [S.2.2 a, S.2.2 b] = false then -7 else 0
  | _, _ => -1
def xsp (S : xSt) (a : Int32) : List Nat := match ix a 8 with
  | some a => S.2.2 a
  | none => []
noncomputable def sp_same (S : xSt) (a b : Int32) : Int32 := if sp_two S a b = 0 then b2 (wA S.2.1 (xsp S a) (xsp S b)) else sp_two S a b
noncomputable def sp_heap (S : xSt) (a : Int32) : Int32 := if sp_two S a a = 0 then nI (hpOf S.2.1 [xsp S a, xsp S a]).length else sp_two S a a
noncomputable def sp_least (S : xSt) (a : Int32) : Int32 := if sp_two S a a = 0 then nI (nUn S.2.1 (wReach S.2.1 [xsp S a, xsp S a])) else sp_two S a a
/-- the first letter that parts two words, where n more letters come -/
noncomputable def apX (M : xMac) (n : Nat) (a b : List Nat) : Nat := ((List.range (mK M)).find? (fun x => !(wout M a x == wout M b x && wE M n (wpart M a x) (wpart M b x)))).getD 0
noncomputable def apRow (M : xMac) : Nat → List Nat → List Nat → Nat → Nat
  | 0, _, _, num => num
  | n + 1, a, b, num => apRow M n (wpart M a (apX M n a b)) (wpart M b (apX M n a b)) (4 * num + apX M n a b)
/-- the least number of letters that parts two words, from k on, at most f more -/
noncomputable def apN (M : xMac) (a b : List Nat) : Nat → Nat → Option Nat
  | 0, k => if wE M k a b then none else some k
  | f + 1, k => if wE M k a b then apN M a b f (k + 1) else some k
noncomputable def sp_apart (S : xSt) (a b : Int32) : Int32 := if sp_two S a b = 0 then (match apN S.2.1 (xsp S a) (xsp S b) 14 0 with
  | none => -8
  | some n => nI (apRow S.2.1 n (xsp S a) (xsp S b) 1)) else sp_two S a b
