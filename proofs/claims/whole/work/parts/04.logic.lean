theorem xtab_len : xtab.length = xN := by decide +kernel
theorem lay_out {k : Nat} (h : ¬ k < xN) : lay k = .inl (0, []) := by
  unfold lay
  rw [List.getD_eq_getElem?_getD, List.getElem?_eq_none (by rw [xtab_len]; omega)]
  rfl
theorem lay_lt_a {k : Nat} {a : Nat × Nat × (Nat → Nat)} (h : lay k = .inr a) : k < xN := by
  by_cases hk : k < xN
  · exact hk
  · rw [lay_out hk] at h; cases h
theorem lay_lt_o {k ci j : Nat} {fs : List xs_F} {sp : xs_F} (h : lay k = .inl (ci, fs)) (hj : fs[j]? = some sp) : k < xN := by
  by_cases hk : k < xN
  · exact hk
  · rw [lay_out hk] at h
    cases h
    simp at hj
-- what a cell holds
def xs_fs (ad : Nat → Nat) (i : Nat → Int32) (j : Nat → Int64) : Nat → List xs_F → List Value
  | _, [] => []
  | n, .inl r :: l => .ref (ad r) :: xs_fs ad i j (n + 1) l
  | n, .inr false :: l => .int (i n) :: xs_fs ad i j (n + 1) l
  | n, .inr true :: l => .long (j n) :: xs_fs ad i j (n + 1) l
def xs_v (ad : Nat → Nat) (i : Nat → Int32) (j : Nat → Int64) (n : Nat) : xs_F → Value
  | .inl r => .ref (ad r)
  | .inr false => .int (i n)
  | .inr true => .long (j n)
theorem xs_fs_at (ad : Nat → Nat) (i : Nat → Int32) (j : Nat → Int64) : ∀ (fs : List xs_F) (n k : Nat), (xs_fs ad i j n fs)[k]? = (fs[k]?).map (xs_v ad i j (n + k))
  | [], n, k => by simp [xs_fs]
  | .inl r :: l, n, 0 => rfl
  | .inr false :: l, n, 0 => rfl
  | .inr true :: l, n, 0 => rfl
  | .inl r :: l, n, k + 1 => by
    have h := xs_fs_at ad i j l (n + 1) k
    rw [show n + 1 + k = n + (k + 1) by omega] at h
    simpa [xs_fs] using h
  | .inr false :: l, n, k + 1 => by
    have h := xs_fs_at ad i j l (n + 1) k
    rw [show n + 1 + k = n + (k + 1) by omega] at h
    simpa [xs_fs] using h
  | .inr true :: l, n, k + 1 => by
    have h := xs_fs_at ad i j l (n + 1) k
    rw [show n + 1 + k = n + (k + 1) by omega] at h
    simpa [xs_fs] using h
theorem xs_fs_len (ad : Nat → Nat) (i : Nat → Int32) (j : Nat → Int64) : ∀ (fs : List xs_F) (n : Nat), (xs_fs ad i j n fs).length = fs.length
  | [], n => rfl
  | .inl r :: l, n => by simp [xs_fs, xs_fs_len ad i j l]
  | .inr false :: l, n => by simp [xs_fs, xs_fs_len ad i j l]
  | .inr true :: l, n => by simp [xs_fs, xs_fs_len ad i j l]
theorem xs_fs_setI (ad : Nat → Nat) (i : Nat → Int32) (j : Nat → Int64) {fs : List xs_F} {k : Nat} (h : fs[k]? = some (.inr false)) (x : Int32) : (xs_fs ad i j 0 fs).set k (.int x) = xs_fs ad (upd i k x) j 0 fs := by
  apply List.ext_getElem?
  intro q
  rw [xs_fs_at]
  by_cases hq : q = k
  · subst hq
    have hl : q < (xs_fs ad i j 0 fs).length := by
      rw [xs_fs_len]; exact (List.getElem?_eq_some_iff.mp h).1
    rw [List.getElem?_set_self hl, h]
    simp [xs_v, upd]
  · rw [List.getElem?_set_ne (fun e => hq e.symm), xs_fs_at]
    cases hf : fs[q]? with
    | none => rfl
    | some sp => rcases sp with r | b
                 · rfl
                 · cases b
                   · simp [xs_v, upd, hq]
                   · rfl
theorem xs_fs_setJ (ad : Nat → Nat) (i : Nat → Int32) (j : Nat → Int64) {fs : List xs_F} {k : Nat} (h : fs[k]? = some (.inr true)) (x : Int64) : (xs_fs ad i j 0 fs).set k (.long x) = xs_fs ad i (vp_updL j k x) 0 fs := by
  apply List.ext_getElem?
  intro q
  rw [xs_fs_at]
  by_cases hq : q = k
  · subst hq
    have hl : q < (xs_fs ad i j 0 fs).length := by
      rw [xs_fs_len]; exact (List.getElem?_eq_some_iff.mp h).1
    rw [List.getElem?_set_self hl, h]
    simp [xs_v, vp_updL]
  · rw [List.getElem?_set_ne (fun e => hq e.symm), xs_fs_at]
    cases hf : fs[q]? with
    | none => rfl
    | some sp => rcases sp with r | b
                 · rfl
                 · cases b
                   · rfl
                   · simp [xs_v, vp_updL, hq]
def xs_a (G : xG) (i : Nat → Int32) (j : Nat → Int64) (a : Nat × Nat × (Nat → Nat)) : va_E := match a.1 with
  | 1 => .inl (G.2.2 1, a.2.1, .inr (.inl j))
  | 3 => .inl (G.2.2 3, a.2.1, .inr (.inr (.inr (.inr (fun k => some (G.1 (a.2.2 k)))))))
  | 4 => .inl (G.2.2 4, a.2.1, .inr (.inr (.inr (.inr (fun k => some (G.1 (a.2.2 k)))))))
  | n => .inl (G.2.2 n, a.2.1, .inl i)
def xs_c (G : xG) (i : Nat → Int32) (j : Nat → Int64) (L : xs_L) : va_E := match L with
  | .inl o => .inr (o.1, xs_fs G.1 i j 0 o.2)
  | .inr a => xs_a G i j a
def xs_e (G : xG) (I : xI) (J : xJ) (k : Nat) : va_E := xs_c G (I k) (J k) (lay k)
def xws (G : xG) (I : xI) (J : xJ) : va_W := (List.range xN).map (fun k => (G.1 k, xs_e G I J k))
abbrev xtys (G : xG) : List (ClassId × FieldType) := [(G.2.2 0, .int), (G.2.2 1, .long), (G.2.2 2, .boolean), (G.2.2 3, .object "SwitchTower$Sheet"), (G.2.2 4, .object "SwitchTower$Word")]
theorem xws_at {G : xG} {I : xI} {J : xJ} {k : Nat} (h : k < xN) : (xws G I J)[k]? = some (G.1 k, xs_e G I J k) := by
  simp [xws, h]
theorem xws_inv {G : xG} {I : xI} {J : xJ} {k : Nat} {q : Nat × va_E} (h : (xws G I J)[k]? = some q) : k < xN ∧ q = (G.1 k, xs_e G I J k) := by
  have hk : k < xN := by
    have := (List.getElem?_eq_some_iff.mp h).1
    simpa [xws] using this
  exact ⟨hk, Option.some.inj (h.symm.trans (xws_at hk))⟩
theorem xws_set {G : xG} {I I' : xI} {J J' : xJ} {k : Nat} {e : va_E} (hk : k < xN) (he : xs_e G I' J' k = e) (ho : ∀ q, q ≠ k → xs_e G I' J' q = xs_e G I J q) : (xws G I J).set k (G.1 k, e) = xws G I' J' := by
  apply List.ext_getElem?
  intro q
  by_cases hq : q = k
  · subst hq
    rw [List.getElem?_set_self (by simpa [xws] using hk), xws_at hk, he]
  · rw [List.getElem?_set_ne (fun e => hq e.symm)]
    by_cases hqn : q < xN
    · rw [xws_at hqn, xws_at hqn, ho q hq]
    · rw [List.getElem?_eq_none (by simp [xws]; omega), List.getElem?_eq_none (by simp [xws]; omega)]
theorem xws_setI {G : xG} {I : xI} {J : xJ} {k : Nat} {i : Nat → Int32} {e : va_E} (hk : k < xN) (he : xs_c G i (J k) (lay k) = e) : (xws G I J).set k (G.1 k, e) = xws G (va_up I k i) J := by
  refine xws_set hk ?_ (fun q hq => ?_)
  · rw [← he]; simp [xs_e, va_up]
  · simp [xs_e, va_up, hq]
theorem xws_setJ {G : xG} {I : xI} {J : xJ} {k : Nat} {j : Nat → Int64} {e : va_E} (hk : k < xN) (he : xs_c G (I k) j (lay k) = e) : (xws G I J).set k (G.1 k, e) = xws G I (va_up J k j) := by
  refine xws_set hk ?_ (fun q hq => ?_)
  · rw [← he]; simp [xs_e, va_up]
  · simp [xs_e, va_up, hq]
def xInj (G : xG) : Prop := ∀ i j : Nat, i < xN → j < xN → G.1 i = G.1 j → i = j
theorem xD {G : xG} {I : xI} {J : xJ} {A : Nat → Prop} (hi : xInj G) (hA : ∀ k, k < xN → A (G.1 k)) : va_D A (xws G I J) := by
  refine ⟨fun i j p q hp hq e => ?_, fun k q hk => ?_⟩
  · obtain ⟨h1, rfl⟩ := xws_inv hp
    obtain ⟨h2, rfl⟩ := xws_inv hq
    exact hi i j h1 h2 e
  · obtain ⟨h1, rfl⟩ := xws_inv hk
    exact hA k h1
-- locals, by place
def xal : Nat → List (Option Value) → List (Nat × Value)
  | _, [] => []
  | n, none :: l => xal (n + 1) l
  | n, some v :: l => (n, v) :: xal (n + 1) l
theorem xal_mem : ∀ (l : List (Option Value)) (n : Nat) (q : Nat × Value), q ∈ xal n l ↔ n ≤ q.1 ∧ l[q.1 - n]? = some (some q.2)
  | [], n, q => by simp [xal]
  | none :: l, n, q => by
    rw [xal, xal_mem l (n + 1) q]
    constructor
    · rintro ⟨h1, h2⟩
      refine ⟨by omega, ?_⟩
      rw [show q.1 - n = (q.1 - (n + 1)) + 1 by omega, List.getElem?_cons_succ]
      exact h2
    · rintro ⟨h1, h2⟩
      by_cases h : q.1 = n
      · rw [h, Nat.sub_self] at h2
        simp at h2
      · rw [show q.1 - n = (q.1 - (n + 1)) + 1 by omega, List.getElem?_cons_succ] at h2
        exact ⟨by omega, h2⟩
  | some v :: l, n, q => by
    rw [xal, List.mem_cons, xal_mem l (n + 1) q]
    constructor
    · rintro (h | ⟨h1, h2⟩)
      · subst h
        simp
      · refine ⟨by omega, ?_⟩
        rw [show q.1 - n = (q.1 - (n + 1)) + 1 by omega, List.getElem?_cons_succ]
        exact h2
    · rintro ⟨h1, h2⟩
      by_cases h : q.1 = n
      · left
        rw [h, Nat.sub_self] at h2
        simp at h2
        rw [h2, ← h]
      · right
        rw [show q.1 - n = (q.1 - (n + 1)) + 1 by omega, List.getElem?_cons_succ] at h2
        exact ⟨by omega, h2⟩
abbrev xL : Type := List (Option Value)
def xkill (l : xL) (i : Nat) : xL := match l[i]? with
  | some (some (.long _)) => l.set i none
  | some (some (.double _)) => l.set i none
  | _ => l
def xpre (l : xL) (i : Nat) : xL := match i with
  | 0 => l
  | i + 1 => xkill l i
def xst1 (l : xL) (i : Nat) (v : Value) : xL := (xpre l i).set i (some v)
def xst2 (l : xL) (i : Nat) (v : Value) : xL := ((xpre l i).set i (some v)).set (i + 1) none
def xhas (ls : Array Slot) (nL : Nat) (l : xL) : Prop := lv_has ls nL (xal 0 l)
theorem xhas_at {ls : Array Slot} {nL : Nat} {l : xL} (h : xhas ls nL l) {i : Nat} {v : Value} (hi : l[i]? = some (some v)) : ls[i]? = some (.val v) := h.2.2 (i, v) ((xal_mem l 0 (i, v)).mpr ⟨Nat.zero_le _, hi⟩)
theorem xhas_of {ls : Array Slot} {nL : Nat} {l : xL} {lv : List (Nat × Value)} (h : lv_has ls nL lv) (hs : ∀ (i : Nat) (v : Value), l[i]? = some (some v) → (i, v) ∈ lv) : xhas ls nL l := by
  refine ⟨h.1, h.2.1, fun q hq => h.2.2 q ?_⟩
  obtain ⟨-, h2⟩ := (xal_mem l 0 q).mp hq
  exact hs q.1 q.2 h2
theorem xkill_at {l : xL} {i k : Nat} {v : Value} (h : (xkill l i)[k]? = some (some v)) : l[k]? = some (some v) ∧ (k = i → ¬ v.category = 2) := by
  unfold xkill at h
  by_cases hk : k = i
  · subst hk
    split at h
    · rename_i w hw
      rw [List.getElem?_set_self (List.getElem?_eq_some_iff.mp hw).1] at h
      cases h
    · rename_i w hw
      rw [List.getElem?_set_self (List.getElem?_eq_some_iff.mp hw).1] at h
      cases h
    · rename_i h1 h2
      refine ⟨h, fun _ hc => ?_⟩
      cases v with
      | long x => exact h1 x h
      | double x => exact h2 x h
      | _ => simp [Value.category] at hc
  · refine ⟨?_, fun e => absurd e hk⟩
    split at h
    · rwa [List.getElem?_set_ne (fun e => hk e.symm)] at h
    · rwa [List.getElem?_set_ne (fun e => hk e.symm)] at h
    · exact h
theorem xpre_at {l : xL} {i k : Nat} {v : Value} (h : (xpre l i)[k]? = some (some v)) : l[k]? = some (some v) ∧ (k + 1 = i → ¬ v.category = 2) := by
  cases i with
  | zero => exact ⟨h, fun e => by omega⟩
  | succ i =>
    obtain ⟨h1, h2⟩ := xkill_at (i := i) h
    exact ⟨h1, fun e => h2 (by omega)⟩
theorem xst1_in {l : xL} {i : Nat} {x : Value} (k : Nat) (v : Value) (h : (xst1 l i x)[k]? = some (some v)) : (k, v) ∈ (i, x) :: (xal 0 l).filter (fun q => !(q.1 == i) && !(q.1 + 1 == i && q.2.category == 2)) := by
  unfold xst1 at h
  by_cases hk : k = i
  · subst hk
    by_cases hl : k < (xpre l k).length
    · rw [List.getElem?_set_self hl] at h
      cases h
      exact List.mem_cons_self
    · rw [List.getElem?_eq_none (by simpa using hl)] at h
      cases h
  · rw [List.getElem?_set_ne (fun e => hk e.symm)] at h
    obtain ⟨h1, h2⟩ := xpre_at h
    refine List.mem_cons_of_mem _ (List.mem_filter.mpr ⟨(xal_mem l 0 (k, v)).mpr ⟨Nat.zero_le _, h1⟩, ?_⟩)
    simp only [Bool.and_eq_true, Bool.not_eq_true', beq_eq_false_iff_ne, ne_eq, Bool.and_eq_false_imp, beq_iff_eq]
    exact ⟨hk, fun e => h2 e⟩
theorem xst2_in {l : xL} {i : Nat} {x : Value} (k : Nat) (v : Value) (h : (xst2 l i x)[k]? = some (some v)) : (k, v) ∈ (i, x) :: (xal 0 l).filter (fun q => !(q.1 == i) && (!(q.1 == i + 1) && !(q.1 + 1 == i && q.2.category == 2))) := by
  unfold xst2 at h
  by_cases hk1 : k = i + 1
  · subst hk1
    by_cases hl : i + 1 < ((xpre l i).set i (some x)).length
    · rw [List.getElem?_set_self hl] at h
      cases h
    · rw [List.getElem?_eq_none (by simpa using hl)] at h
      cases h
  rw [List.getElem?_set_ne (fun e => hk1 e.symm)] at h
  by_cases hk : k = i
  · subst hk
    by_cases hl : k < (xpre l k).length
    · rw [List.getElem?_set_self hl] at h
      cases h
      exact List.mem_cons_self
    · rw [List.getElem?_eq_none (by simpa using hl)] at h
      cases h
  · rw [List.getElem?_set_ne (fun e => hk e.symm)] at h
    obtain ⟨h1, h2⟩ := xpre_at h
    refine List.mem_cons_of_mem _ (List.mem_filter.mpr ⟨(xal_mem l 0 (k, v)).mpr ⟨Nat.zero_le _, h1⟩, ?_⟩)
    simp only [Bool.and_eq_true, Bool.not_eq_true', beq_eq_false_iff_ne, ne_eq, Bool.and_eq_false_imp, beq_iff_eq]
    exact ⟨hk, hk1, fun e => h2 e⟩
-- the words
def xw : List Cond := lw_tbl.filter goodWord
theorem xw_sub {w : Cond} (h : w ∈ xw) : w ∈ lw_tbl := (List.mem_filter.mp h).1
theorem xw_good {w : Cond} (h : w ∈ xw) : goodWord w = true := (List.mem_filter.mp h).2
theorem xw_in {w : Cond} (h : w ∈ lw_tbl) (hg : goodWord w = true) : w ∈ xw := List.mem_filter.mpr ⟨h, hg⟩
theorem xt {w : Cond} (n : Nat) (h : tables_1[n]? = some w) (hg : goodWord w = true) : w ∈ xw := xw_in (List.mem_append_right _ (List.mem_of_getElem? h)) hg
theorem xp {w : Cond} (h : w ∈ k2_sels lw_privs) (hg : goodWord w = true) : w ∈ xw := xw_in (List.mem_append_left _ h) hg
def xnest : Cond := .methodLinkNest RX3 60 yX8_isGoal RX8
-- a method's own words
abbrev xown (F : xM) : List Cond := .code F.1 F.2.1 F.2.2.1 F.2.2.2.1 :: xw
theorem xown_good {F F' : xM} (h : Cond.code F'.1 F'.2.1 F'.2.2.1 F'.2.2.2.1 ∈ xw) : GoodIn (xown F) (xown F') := by
  intro w hw
  rcases List.mem_cons.mp hw with e | h1
  · subst e
    exact ⟨List.mem_cons_of_mem _ h, good_of_word (xw_good h)⟩
  · exact ⟨List.mem_cons_of_mem _ h1, good_of_word (xw_good h1)⟩
/-- what holds in a method's body -/
def xC (G : xG) (F : xM) (p : Program) (s : State) (m : MethodId) (args : Array Value) (meth : Method) (c : Code) (A : Nat → Prop) : Prop :=
  p.tables.exec = Jvm.exec ∧ c.code = F.2.1 ∧ c.maxLocals = F.2.2.1 ∧ s.vm.findClass F.1.cls = some m.cls ∧ (∀ w ∈ xw, w.before args s = true) ∧ va_K G.2.1 xcl (xtys G) s ∧ xInj G ∧ (∀ k, k < xN → A (G.1 k)) ∧ meth.locks = false ∧ meth.sig.returnType = F.2.2.2.1 ∧ va_Nw xnest s
def xT (G : xG) (F : xM) (Q : xQT) (pc : Nat) (lv : xL) (st : List Value) (I : xI) (J : xJ) : Prop :=
  ∀ (p : Program) (l : Launch) (e : Env) (s : State) (m : MethodId) (args : Array Value) (below : List Frame) (meth : Method) (c : Code) (A : Nat → Prop), xC G F p s m args meth c A →
  ∀ (H : Heap) (locs : List Loc) (ls : Array Slot), xhas ls F.2.2.1 lv → va_P G.2.1 xcl (xws G I J) H → va_S A s.heap H locs → W p l e F.2.2.2.2.1 s m args below meth c H locs F.2.2.2.2.2.1 F.2.2.2.2.2.2 (Q below args s A) (F0 m pc ls st)
def xA (G : xG) : Nat → Prop := fun q => ∃ k, k < xN ∧ q = G.1 k
def xQc (G : xG) (post : Option Value → xI → xJ → Prop) (A : Nat → Prop) : Array Value → State → Outcome → State → Prop := fun _ st oc t => (∃ (r : Option Value) (I : xI) (J : xJ), oc = .returned r ∧ post r I J ∧ va_P G.2.1 xcl (xws G I J) t.heap) ∧ va_F A st t
def xMQ (G : xG) (post : Option Value → xI → xJ → Prop) : xQT := fun below args s A => MQ below (xQc G post A) args s 0 0 A
def xPc (G : xG) (av : List Value) (I : xI) (J : xJ) : Array Value → State → Prop := va_Pc av (fun U => va_P G.2.1 xcl (xws G I J) U.heap ∧ va_K G.2.1 xcl (xtys G) U ∧ va_Nw xnest U ∧ xInj G)
/-- a method's contract -/
def xCon (G : xG) (F : xM) (av : List Value) (I : xI) (J : xJ) (post : Option Value → xI → xJ → Prop) : Prop :=
  ∀ l : Launch, Met l F.1 (xown F) F.2.2.2.2.1 (xPc G av I J) (xQc G post (xA G)) 0 0 (xA G)
def xEnt : List Value → xL
  | [] => []
  | v :: vs => if v.category = 2 then some v :: none :: xEnt vs else some v :: xEnt vs
theorem xEnt_in : ∀ (vs : List Value) (n i : Nat) (v : Value), (xEnt vs)[i]? = some (some v) → (n + i, v) ∈ lv_args n vs
  | [], n, i, v, h => by simp [xEnt] at h
  | w :: vs, n, i, v, h => by
    unfold xEnt at h
    unfold lv_args
    by_cases hc : w.category = 2
    · rw [if_pos hc] at h ⊢
      match i, h with
      | 0, h => simp at h; subst h; simp
      | 1, h => simp at h
      | i + 2, h =>
        have h1 := xEnt_in vs (n + 2) i v (by simpa using h)
        rw [show n + 2 + i = n + (i + 2) by omega] at h1
        exact List.mem_cons_of_mem _ h1
    · rw [if_neg hc] at h ⊢
      match i, h with
      | 0, h => simp at h; subst h; simp
      | i + 1, h =>
        have h1 := xEnt_in vs (n + 1) i v (by simpa using h)
        rw [show n + 1 + i = n + (i + 1) by omega] at h1
        exact List.mem_cons_of_mem _ h1
/-- a contract by its body -/
theorem x_enter {G : xG} {F : xM} {av : List Value} {I : xI} {J : xJ} {post : Option Value → xI → xJ → Prop} (lv : xL) (hy : plainName F.1.cls = true) (hn : (lg_sl av).length ≤ F.2.2.1) (hc : F.2.2.2.2.2 = (0, 0)) (hlv : ∀ (i : Nat) (v : Value), lv[i]? = some (some v) → (xEnt av)[i]? = some (some v)) (h : xT G F (xMQ G post) 0 lv [] I J) : xCon G F av I J post := by
  intro l
  refine Met.ofW (cc := F.2.1) (maxL := F.2.2.1) (ret := F.2.2.2.1) (ws' := xw) hy rfl ?_
  intro p e s m args below meth c s₁ B hml hv
  obtain ⟨rfl, hP, hK, hN, hi⟩ := hv
  have hts := atoms_spec (ws := xown F) B.pre
  have hl := lv_entry av (n := F.2.2.1) hn
  rw [lg_entry_eq]
  have hl2 : xhas ((lg_sl av ++ List.replicate (F.2.2.1 - (lg_sl av).length) Slot.unset).toArray) F.2.2.1 lv := xhas_of hl (fun i v hiv => by
    have := xEnt_in av 0 i v (hlv i v hiv)
    rwa [Nat.zero_add] at this)
  have hh := h p l e s m av.toArray below meth c (xA G) ⟨B.exec, B.bytes, hml, findClass_of_methodNamed B.named, fun w hw => hts w (List.mem_cons_of_mem _ hw), hK, hi, fun k hk => ⟨k, hk, rfl⟩, B.notSynchronized, B.returns, hN⟩ s.heap [] _ hl2 hP va_S.rf
  rw [show F.2.2.2.2.2.1 = 0 by rw [hc], show F.2.2.2.2.2.2 = 0 by rw [hc]] at hh
  exact hh
