-- acts of back words are permutations of a level
theorem mw_inj {M : xMac} (hM : mOk M) {m x y : Nat} (hb : mBack M (m / 2)) (hx : x < mK M) (hy : y < mK M) (h : mw M m x = mw M m y) : x = y := by
  unfold mw at h
  split at h
  · rcases Nat.lt_trichotomy x y with q | q | q
    · exact absurd h.symm (hb.fair y x hy q)
    · exact q
    · exact absurd h (hb.fair x y hx q)
  · have a := mInv_ok hM hb.lt hb.fair hx
    have b := mInv_ok hM hb.lt hb.fair hy
    rw [← a.2, ← b.2, h]
theorem mg_back {M : xMac} (hM : mOk M) {m x g : Nat} (hb : mBack M (m / 2)) (hx : x < mK M) (hg : mg M m x = some g) : mBack M (g / 2) := by
  unfold mg at hg
  split at hg
  · obtain ⟨g', h1, rfl⟩ := Option.map_eq_some_iff.mp hg
    rw [show 2 * g' / 2 = g' by omega]
    exact hb.go hx h1
  · obtain ⟨g', h1, rfl⟩ := Option.map_eq_some_iff.mp hg
    rw [show (2 * g' + 1) / 2 = g' by omega]
    exact hb.go (mInv_ok hM hb.lt hb.fair hx).1 h1
theorem mact_inj {M : xMac} (hM : mOk M) : ∀ (r r' : List Nat) (o : Option Nat), (∀ m, o = some m → mBack M (m / 2)) → rOk M r → rOk M r' → mact M o r = mact M o r' → r = r'
  | [], [], _, _, _, _, _ => rfl
  | [], x :: r, o, _, _, _, h => by have := congrArg List.length h; rw [mact_len, mact_len] at this; cases this
  | x :: r, [], o, _, _, _, h => by have := congrArg List.length h; rw [mact_len, mact_len] at this; cases this
  | x :: r, y :: r', none, _, _, _, h => by rw [mact_none, mact_none] at h; exact h
  | x :: r, y :: r', some m, hb, hr, hr', h => by
    have hb' := hb m rfl
    have h : mw M m x :: mact M (mg M m x) r = mw M m y :: mact M (mg M m y) r' := h
    have h1 := mw_inj hM hb' (hr x List.mem_cons_self) (hr' y List.mem_cons_self) (List.cons.inj h).1
    subst h1
    rw [mact_inj hM r r' (mg M m x) (fun g hg => mg_back hM hb' (hr x List.mem_cons_self) hg) (fun a ha => hr a (List.mem_cons_of_mem _ ha)) (fun a ha => hr' a (List.mem_cons_of_mem _ ha)) (List.cons.inj h).2]
theorem mBack.okm {M : xMac} {m : Nat} (h : mBack M (m / 2)) : mOkm M m := ⟨h.lt, fun _ => h⟩
theorem mkp_pm {M : xMac} (hM : mOk M) (hwh : mWhole M) {n m : Nat} (hb : mBack M (m / 2)) : isPm (mkp M n m) (mK M ^ n) := by
  have hK : 0 < mK M := by have := hM.1; omega
  refine ⟨fun p hp => mkp_lt hM hwh hb.okm, fun p q hp hq h => ?_⟩
  have ok : ∀ p, rOk M (rOfP (mK M) n p) := fun p => rOfP_lt hK n p
  have ok2 : ∀ p, rOk M (mact M (some m) (rOfP (mK M) n p)) := fun p => mact_ok hM hwh _ _ (fun m' e => by cases e; exact hb.okm) (ok p)
  have e2 : ∀ p, rOfP (mK M) n (mkp M n m p) = mact M (some m) (rOfP (mK M) n p) := fun p => by
    have := rOfP_plc hK (mact M (some m) (rOfP (mK M) n p)) (ok2 p)
    rw [mact_len, rOfP_len] at this
    exact this
  have := mact_inj hM _ _ (some m) (fun m' e => by cases e; exact hb) (ok p) (ok q) (by rw [← e2, ← e2, h])
  rw [← plc_rOfP hK n p hp, this, plc_rOfP hK n q hq]
/-- what a word makes of the rows of a level, by their places -/
def wkp (M : xMac) (n : Nat) (w : List Nat) (p : Nat) : Nat := plc (mK M) (wact M w (rOfP (mK M) n p))
theorem wkp_row {M : xMac} (hM : mOk M) (hwh : mWhole M) {n : Nat} {w : List Nat} (hw : wOk M w) (p : Nat) : rOfP (mK M) n (wkp M n w p) = wact M w (rOfP (mK M) n p) := by
  have hK : 0 < mK M := by have := hM.1; omega
  have := rOfP_plc hK (wact M w (rOfP (mK M) n p)) (wact_ok hM hwh _ _ hw (rOfP_lt hK n p))
  rw [wact_len, rOfP_len] at this
  exact this
theorem wkp_lt {M : xMac} (hM : mOk M) (hwh : mWhole M) {n : Nat} {w : List Nat} (hw : wOk M w) (p : Nat) : wkp M n w p < mK M ^ n := by
  have hK : 0 < mK M := by have := hM.1; omega
  have := plc_lt (wact M w (rOfP (mK M) n p)) (wact_ok hM hwh _ _ hw (rOfP_lt hK n p))
  rw [wact_len, rOfP_len] at this
  exact this
theorem wkp_nil {M : xMac} (hM : mOk M) {n p : Nat} (hp : p < mK M ^ n) : wkp M n [] p = p := plc_rOfP (by have := hM.1; omega) n p hp
theorem wkp_snoc {M : xMac} (hM : mOk M) (hwh : mWhole M) {n m : Nat} {w : List Nat} (hw : wOk M w) (p : Nat) : wkp M n (w ++ [m]) p = mkp M n m (wkp M n w p) := by
  unfold wkp mkp
  rw [wact_snoc]
  congr 2
  exact (wkp_row hM hwh hw p).symm
theorem list_snoc {α : Type} (l : List α) : l = [] ∨ ∃ l' a, l = l' ++ [a] := by
  rcases List.eq_nil_or_concat l with h | ⟨l', a, h⟩
  · exact Or.inl h
  · exact Or.inr ⟨l', a, by rw [h, List.concat_eq_append]⟩
theorem snoc_ind {α : Type} {P : List α → Prop} (h0 : P []) (h1 : ∀ l a, P l → P (l ++ [a])) (l : List α) : P l := by
  have key : ∀ n, ∀ l : List α, l.length = n → P l := by
    intro n
    induction n with
    | zero => intro l hl; rw [List.length_eq_zero_iff.mp hl]; exact h0
    | succ n IH =>
      intro l hl
      rcases list_snoc l with h | ⟨l', a, rfl⟩
      · rw [h]; exact h0
      · exact h1 l' a (IH l' (by simp at hl; omega))
  exact key _ l rfl
def wAllB (M : xMac) (w : List Nat) : Prop := ∀ m ∈ w, mBack M (m / 2)
theorem wAllB.ok {M : xMac} {w : List Nat} (h : wAllB M w) : wOk M w := fun m hm => (h m hm).okm
theorem wBk_iff {M : xMac} {w : List Nat} : wBk M w = true ↔ wAllB M w := by
  unfold wBk wAllB
  rw [List.all_eq_true]
  exact ⟨fun h m hm => mB_iff.mp (h m hm), fun h m hm => mB_iff.mpr (h m hm)⟩
theorem wkp_pm {M : xMac} (hM : mOk M) (hwh : mWhole M) {n : Nat} : ∀ {w : List Nat}, wAllB M w → isPm (wkp M n w) (mK M ^ n) := by
  intro w
  induction w using snoc_ind with
  | h0 => exact fun _ => ⟨fun p hp => by rw [wkp_nil hM hp]; exact hp, fun p q hp hq h => by rw [wkp_nil hM hp, wkp_nil hM hq] at h; exact h⟩
  | h1 w m IH =>
    intro hb
    have hb1 : wAllB M w := fun a ha => hb a (List.mem_append_left _ ha)
    have IH := IH hb1
    have pm := mkp_pm (n := n) hM hwh (hb m (List.mem_append_right _ (List.mem_singleton.mpr rfl)))
    refine ⟨fun p hp => ?_, fun p q hp hq h => ?_⟩
    · rw [wkp_snoc hM hwh hb1.ok]; exact pm.1 _ (IH.1 p hp)
    · rw [wkp_snoc hM hwh hb1.ok, wkp_snoc hM hwh hb1.ok] at h
      exact IH.2 p q hp hq (pm.2 _ _ (IH.1 p hp) (IH.1 q hq) h)
noncomputable def ordOf (M : xMac) (n : Nat) (w : List Nat) : Nat := ordL (wkp M n w) (mK M ^ n) (mK M ^ n)
noncomputable def sp_order (S : xSt) (a n : Int32) : Int32 := match ix a 8, lvl (mK S.2.1) n 256 with
  | some a, some n => if mW S.2.1 = false then -5 else if wBk S.2.1 (S.2.2 a) = false then -6 else if 1000000 < ordOf S.2.1 n (S.2.2 a) then -7 else nI (ordOf S.2.1 n (S.2.2 a))
  | _, _ => -1
-- rows that hang together
def conn (st : Nat → Nat → Prop) (p q : Nat) : Prop := ∀ R : Nat → Prop, R p → (∀ a b, st a b ∨ st b a → R a → R b) → R q
theorem conn.rf {st : Nat → Nat → Prop} {p : Nat} : conn st p p := fun R h _ => h
theorem conn.one {st : Nat → Nat → Prop} {p q : Nat} (h : st p q ∨ st q p) : conn st p q := fun R h0 hs => hs p q h h0
theorem conn.tr {st : Nat → Nat → Prop} {p q r : Nat} (h : conn st p q) (h2 : conn st q r) : conn st p r := fun R h0 hs => h2 R (h R h0 hs) hs
theorem conn.sy {st : Nat → Nat → Prop} {p q : Nat} (h : conn st p q) : conn st q p := h (fun x => conn st x p) conn.rf (fun a b hab ha => (conn.one (hab.elim Or.inr Or.inl)).tr ha)
def bst (M : xMac) (n p q : Nat) : Prop := p < mK M ^ n ∧ ∃ m ∈ mMarks M, mBack M (m / 2) ∧ q = mkp M n m p
noncomputable def orbF (M : xMac) (n p : Nat) : Bool := @decide (∀ q, q < p → ¬ conn (bst M n) q p) (Classical.propDecidable _)
theorem orbF_iff {M : xMac} {n p : Nat} : orbF M n p = true ↔ ∀ q, q < p → ¬ conn (bst M n) q p := by simp [orbF]
noncomputable def sp_orbits (S : xSt) (n : Int32) : Int32 := match lvl (mK S.2.1) n 256 with
  | none => -1
  | some n => if mW S.2.1 = false then -5 else nI (cnt (orbF S.2.1 n) (mK S.2.1 ^ n))
-- the group of a level
def bw (M : xMac) (w : List Nat) : Prop := ∀ m ∈ w, m ∈ mMarks M ∧ mBack M (m / 2)
def wfp (M : xMac) (n : Nat) (w : List Nat) (p : Nat) : Nat := w.foldl (fun p m => mkp M n m p) p
def gOf (M : xMac) (n : Nat) (w : List Nat) : List Nat := (List.range (mK M ^ n)).map (wfp M n w)
def gIn (M : xMac) (n : Nat) (g : List Nat) : Prop := ∃ w, bw M w ∧ g = gOf M n w
theorem gOf_snoc (M : xMac) (n : Nat) (w : List Nat) (m : Nat) : gOf M n (w ++ [m]) = (gOf M n w).map (mkp M n m) := by
  unfold gOf wfp
  simp [List.foldl_append]
theorem gIn.one (M : xMac) (n : Nat) : gIn M n (List.range (mK M ^ n)) := ⟨[], (fun m hm => by cases hm), by unfold gOf wfp; simp⟩
theorem gIn.step {M : xMac} {n m : Nat} {g : List Nat} (h : gIn M n g) (hm : m ∈ mMarks M) (hb : mBack M (m / 2)) : gIn M n (g.map (mkp M n m)) := by
  obtain ⟨w, hw, rfl⟩ := h
  refine ⟨w ++ [m], fun a ha => ?_, (gOf_snoc M n w m).symm⟩
  rcases List.mem_append.mp ha with q | q
  · exact hw a q
  · rw [List.mem_singleton.mp q]; exact ⟨hm, hb⟩
theorem gIn.ind {M : xMac} {n : Nat} {P : List Nat → Prop} (h0 : P (List.range (mK M ^ n))) (h1 : ∀ g m, P g → m ∈ mMarks M → mBack M (m / 2) → P (g.map (mkp M n m))) {g : List Nat} (hg : gIn M n g) : P g := by
  obtain ⟨w, hw, rfl⟩ := hg
  induction w using snoc_ind with
  | h0 => rw [show gOf M n [] = List.range (mK M ^ n) by unfold gOf wfp; simp]; exact h0
  | h1 w m IH =>
    rw [gOf_snoc]
    have := hw m (List.mem_append_right _ (List.mem_singleton.mpr rfl))
    exact h1 _ m (IH (fun a ha => hw a (List.mem_append_left _ ha))) this.1 this.2
def gOk (N : Nat) (g : List Nat) : Prop := g.length = N ∧ ∀ x ∈ g, x < N
theorem gIn.ok {M : xMac} (hM : mOk M) (hwh : mWhole M) {n : Nat} {g : List Nat} (h : gIn M n g) : gOk (mK M ^ n) g := h.ind (P := gOk (mK M ^ n)) ⟨by simp, fun x hx => List.mem_range.mp hx⟩ (fun g m hg hm hb => ⟨by rw [List.length_map]; exact hg.1, fun x hx => by
  obtain ⟨y, hy, rfl⟩ := List.mem_map.mp hx
  exact mkp_lt hM hwh hb.okm⟩)
def isGp (M : xMac) (n : Nat) (gs : List (List Nat)) : Prop := gs.Nodup ∧ ∀ g, g ∈ gs ↔ gIn M n g
noncomputable def gN (M : xMac) (n : Nat) : Option Nat := @dite _ (∃ gs, isGp M n gs ∧ gs.length ≤ 3000) (Classical.propDecidable _) (fun h => some (Classical.choose h).length) (fun _ => none)
theorem gN_some {M : xMac} {n : Nat} {gs : List (List Nat)} (h : isGp M n gs) (hl : gs.length ≤ 3000) : gN M n = some gs.length := by
  have hx : ∃ gs, isGp M n gs ∧ gs.length ≤ 3000 := ⟨gs, h, hl⟩
  unfold gN
  rw [dif_pos hx]
  have h2 := (Classical.choose_spec hx).1
  congr 1
  exact Nat.le_antisymm (nodup_len h2.1 (fun w hw => (h.2 w).mpr ((h2.2 w).mp hw))) (nodup_len h.1 (fun w hw => (h2.2 w).mpr ((h.2 w).mp hw)))
theorem gN_none {M : xMac} {n : Nat} {gs : List (List Nat)} (h : gs.Nodup) (hg : ∀ g ∈ gs, gIn M n g) (hl : 3000 < gs.length) : gN M n = none := by
  unfold gN
  rw [dif_neg]
  intro ⟨gs', h1, h2⟩
  have := nodup_len h (fun w hw => (h1.2 w).mpr (hg w hw))
  omega
noncomputable def sp_group (S : xSt) (n : Int32) : Int32 := match lvl (mK S.2.1) n 16 with
  | none => -1
  | some n => if mW S.2.1 = false then -5 else match gN S.2.1 n with
    | none => -7
    | some k => nI k
