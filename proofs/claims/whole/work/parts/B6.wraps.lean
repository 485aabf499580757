section B6
variable {G : xG} {I : xI} {J : xJ}
/-- the class's picture of the state -/
def cIv (I : xI) (J : xJ) (S : xSt) : Prop := cSh I S.1 ∧ cMc I S.2.1 ∧ cSp I J S.2.1 S.2.2 ∧ pQ I J 41 ∧ cLv I S.2.1 ∧ (∃ ks, kT I J 36 3000 4096 ks) ∧ cSw I J S.2.1
theorem cSh.cg {I' : xI} {sh : xSh} (h : cSh I sh) (e : ∀ a, 4 ≤ a → a ≤ 11 → I' a = I a) : cSh I' sh := fun r hr => (h r hr).cg (e _ (by omega) (by omega)) (e _ (by omega) (by omega))
theorem cSh.fx {A : List Nat} {I' : xI} {J' : xJ} {sh : xSh} (h : cSh I sh) (f : cfx A I J I' J') (hA : ∀ a ∈ A, a < 4 ∨ 11 < a) : cSh I' sh := h.cg (fun a h1 h2 => (f a (fun q => by have := hA a q; omega)).1)
theorem cSp.cg {I' : xI} {J' : xJ} {M : xMac} {sp : Nat → List Nat} (h : cSp I J M sp) (e : ∀ a, 12 ≤ a → a ≤ 19 → I' a = I a ∧ J' a = J a) : cSp I' J' M sp := fun w hw => ⟨(h w hw).1.cg (e _ (by omega) (by omega)).1 (e _ (by omega) (by omega)).2, (h w hw).2⟩
theorem cSp.fx {A : List Nat} {I' : xI} {J' : xJ} {M : xMac} {sp : Nat → List Nat} (h : cSp I J M sp) (f : cfx A I J I' J') (hA : ∀ a ∈ A, a < 12 ∨ 19 < a) : cSp I' J' M sp := h.cg (fun a h1 h2 => f a (fun q => by have := hA a q; omega))
theorem pQ.fx {A : List Nat} {I' : xI} {J' : xJ} {p : Nat} (h : pQ I J p) (f : cfx A I J I' J') (hA : ∀ a ∈ A, a < p + 1 ∨ p + 8 < a) : pQ I' J' p := h.cg (fun a h1 h2 => f a (fun q => by have := hA a q; omega))
theorem kT.fx {A : List Nat} {I' : xI} {J' : xJ} (h : ∃ ks, kT I J 36 3000 4096 ks) (f : cfx A I J I' J') (hA : ∀ a ∈ A, a < 36 ∨ 39 < a) : ∃ ks, kT I' J' 36 3000 4096 ks := by
  obtain ⟨ks, h⟩ := h
  exact ⟨ks, h.cg (fun a h1 h2 => f a (fun q => by have := hA a q; omega))⟩
theorem cSw.fx {A : List Nat} {I' : xI} {J' : xJ} {M : xMac} (h : cSw I J M) (f : cfx A I J I' J') (hA : ∀ a ∈ A, a < 56 ∨ 76 < a) : cSw I' J' M := h.cg (fun a h1 h2 => f a (fun q => by have := hA a q; omega))
theorem cIv.cg {I' : xI} {J' : xJ} {S : xSt} (h : cIv I J S) (e : ∀ a, a < 77 → I' a = I a ∧ J' a = J a) : cIv I' J' S := by
  obtain ⟨h1, h2, h3, h4, h5, ⟨ks, h6⟩, h7⟩ := h
  exact ⟨h1.cg (fun a _ _ => (e a (by omega)).1), h2.cg (fun a _ _ => (e a (by omega)).1), h3.cg (fun a _ _ => e a (by omega)), h4.cg (fun a _ _ => e a (by omega)), h5.cg (fun a _ _ => (e a (by omega)).1), ⟨ks, h6.cg (fun a _ _ => e a (by omega))⟩, h7.cg (fun a _ _ => e a (by omega))⟩
/-- the reference's picture hangs on its own cells alone -/
theorem mIv.cg {I' : xI} {S : xSt} (h : mIv I S) (e : ∀ a, 77 ≤ a → I' a = I a) : mIv I' S := ⟨h.1.cg (e _ (by omega)) (e _ (by omega)) (e _ (by omega)), h.2.1.cg (by rw [e 77 (by omega)]) (by rw [e 77 (by omega)]) (e _ (by omega)) (e _ (by omega)), h.2.2.cg (e _ (by omega)) (e _ (by omega))⟩
theorem cLv_0 {I' : xI} {M : xMac} (h : I' 27 = upd (I 27) 7 0) : cLv I' M := ⟨0, by rw [h]; rfl, by omega, fun j hj => by omega, fun j hj => by omega⟩
theorem cIv.fg {I' : xI} {J' : xJ} {S S' : xSt} (h : cIv I J S) (hs : S'.1 = S.1) (hm : cMc I' S'.2.1) (hp : cSp I' J' S'.2.1 S'.2.2) (f : cFg I J I' J') : cIv I' J' S' ∧ cfr I J I' J' := by
  obtain ⟨h1, h2, h3, h4, h5, h6, h7⟩ := h
  obtain ⟨f, f1, f2⟩ := f
  refine ⟨⟨by rw [hs]; exact h1.fx f (by decide), hm, hp, h4.fx f (by decide), cLv_0 f1, kT.fx h6 f (by decide), h7.1.fx f (by decide), Or.inl (by rw [f2]; rfl)⟩, f.fr (by decide)⟩
theorem cIv.po {I' : xI} {J' : xJ} {S : xSt} {r : Int32 × xSt} {v : Int32} (h : cIv I J S) (q : cPo S r v I J I' J') : v = r.1 ∧ cIv I' J' r.2 ∧ cfr I J I' J' := by
  obtain ⟨h1, h2, h3, h4, h5, h6, h7⟩ := h
  obtain ⟨q1, q2, q3, q4, f⟩ := q
  refine ⟨q1, ⟨by rw [q2]; exact h1.fx f (by decide), by rw [q3]; exact f.mc h2 (by decide), by rw [q3]; exact q4, h4.fx f (by decide), by rw [q3]; exact h5.fx f (by decide), kT.fx h6 f (by decide), by rw [q3]; exact h7.fx f (by decide)⟩, f.fr (by decide)⟩
theorem cIv.ok {S : xSt} (h : cIv I J S) : mOk S.2.1 := h.2.1.1.1
theorem sp_sheet_2 (S : xSt) (r kd n : Int32) : (sp_sheet S r kd n).2.2 = S.2 := by
  unfold sp_sheet
  repeat' split
  all_goals rfl
theorem w8_sheet {S : xSt} (r kd n : Int32) (h : cIv I J S) : xCon G M_X8_sheet [.ref (G.1 0), .int r, .int kd, .int n] I J (xpi fun v0 I' J' => v0 = (sp_sheet S r kd n).1 ∧ cIv I' J' (sp_sheet S r kd n).2 ∧ cfr I J I' J') :=
  (c8_sheet (S := S) r kd n h.1).mono (fun r0 I' J' q => by
    obtain ⟨v0, rfl, q1, q2, f⟩ := q
    obtain ⟨h1, h2, h3, h4, h5, h6, h7⟩ := h
    refine ⟨v0, rfl, q1, ⟨q2, ?_, ?_, h4.fx f (by decide), ?_, kT.fx h6 f (by decide), ?_⟩, f.fr (by decide)⟩
    · rw [sp_sheet_2]; exact f.mc h2 (by decide)
    · rw [sp_sheet_2]; exact h3.fx f (by decide)
    · rw [sp_sheet_2]; exact h5.fx f (by decide)
    · rw [sp_sheet_2]; exact h7.fx f (by decide))
theorem sp_cell_2 (S : xSt) (r i v : Int32) : (sp_cell S r i v).2.2 = S.2 := by
  unfold sp_cell
  repeat' split
  all_goals rfl
theorem w8_cell {S : xSt} (r i v : Int32) (h : cIv I J S) : xCon G M_X8_cell [.ref (G.1 0), .int r, .int i, .int v] I J (xpi fun v0 I' J' => v0 = (sp_cell S r i v).1 ∧ cIv I' J' (sp_cell S r i v).2 ∧ cfr I J I' J') :=
  (c8_cell (S := S) r i v h.1).mono (fun r0 I' J' q => by
    obtain ⟨v0, rfl, q1, q2, f⟩ := q
    obtain ⟨h1, h2, h3, h4, h5, h6, h7⟩ := h
    refine ⟨v0, rfl, q1, ⟨q2, ?_, ?_, h4.fx f (by decide), ?_, kT.fx h6 f (by decide), ?_⟩, f.fr (by decide)⟩
    · rw [sp_cell_2]; exact f.mc h2 (by decide)
    · rw [sp_cell_2]; exact h3.fx f (by decide)
    · rw [sp_cell_2]; exact h5.fx f (by decide)
    · rw [sp_cell_2]; exact h7.fx f (by decide))
theorem sp_lose_2 (S : xSt) (r : Int32) : (sp_lose S r).2.2 = S.2 := by
  unfold sp_lose
  repeat' split
  all_goals rfl
theorem w8_lose {S : xSt} (r : Int32) (h : cIv I J S) : xCon G M_X8_lose [.ref (G.1 0), .int r] I J (xpi fun v0 I' J' => v0 = (sp_lose S r).1 ∧ cIv I' J' (sp_lose S r).2 ∧ cfr I J I' J') :=
  (c8_lose (S := S) r h.1).mono (fun r0 I' J' q => by
    obtain ⟨v0, rfl, q1, q2, f⟩ := q
    obtain ⟨h1, h2, h3, h4, h5, h6, h7⟩ := h
    refine ⟨v0, rfl, q1, ⟨q2, ?_, ?_, h4.fx f (by decide), ?_, kT.fx h6 f (by decide), ?_⟩, f.fr (by decide)⟩
    · rw [sp_lose_2]; exact f.mc h2 (by decide)
    · rw [sp_lose_2]; exact h3.fx f (by decide)
    · rw [sp_lose_2]; exact h5.fx f (by decide)
    · rw [sp_lose_2]; exact h7.fx f (by decide))
theorem w8_told {S : xSt} (r i : Int32) (h : cIv I J S) : xCon G M_X8_told [.ref (G.1 0), .int r, .int i] I J (xpi fun v0 I' J' => v0 = sp_told S r i ∧ cIv I' J' S ∧ cfr I J I' J') :=
  (c8_told (S := S) r i h.1).mono (fun r I' J' q => by
    obtain ⟨v, rfl, q1, rfl, rfl⟩ := q
    exact ⟨v, rfl, q1, h, cfr.rf⟩)
theorem w8_letters {S : xSt} (k : Int32) (h : cIv I J S) : xCon G M_X8_letters [.ref (G.1 0), .int k] I J (xpi fun v0 I' J' => v0 = (sp_letters S k).1 ∧ cIv I' J' (sp_letters S k).2 ∧ cfr I J I' J') :=
  (c8_letters (S := S) k h.2.1).mono (fun r0 I' J' q => by
    obtain ⟨v, rfl, q1, ⟨e, rfl, rfl⟩ | ⟨e, q2, q3, f⟩⟩ := q
    · exact ⟨v, rfl, q1, by rw [e]; exact h, cfr.rf⟩
    · exact ⟨v, rfl, q1, h.fg e q2 q3 f⟩)
theorem w8_state {S : xSt} (r i : Int32) (h : cIv I J S) : xCon G M_X8_state [.ref (G.1 0), .int r, .int i] I J (xpi fun v0 I' J' => v0 = (sp_state S r i).1 ∧ cIv I' J' (sp_state S r i).2 ∧ cfr I J I' J') :=
  (c8_state (S := S) r i h.1 h.2.1 h.2.2.1).mono (fun r0 I' J' q => by
    obtain ⟨v, rfl, q1, ⟨e, rfl, rfl⟩ | ⟨e, q2, q3, f⟩⟩ := q
    · exact ⟨v, rfl, q1, by rw [e]; exact h, cfr.rf⟩
    · exact ⟨v, rfl, q1, h.fg e q2 q3 f⟩)
theorem w8_change {S : xSt} (s x y t : Int32) (h : cIv I J S) : xCon G M_X8_change [.ref (G.1 0), .int s, .int x, .int y, .int t] I J (xpi fun v0 I' J' => v0 = (sp_change S s x y t).1 ∧ cIv I' J' (sp_change S s x y t).2 ∧ cfr I J I' J') :=
  (c8_change (S := S) s x y t h.2.1 h.2.2.1).mono (fun r0 I' J' q => by
    obtain ⟨v, rfl, q1, ⟨e, rfl, rfl⟩ | ⟨e, q2, q3, f⟩⟩ := q
    · exact ⟨v, rfl, q1, by rw [e]; exact h, cfr.rf⟩
    · exact ⟨v, rfl, q1, h.fg e q2 q3 f⟩)
theorem w8_of {S : xSt} (s x what : Int32) (h : cIv I J S) : xCon G M_X8_of [.ref (G.1 0), .int s, .int x, .int what] I J (xpi fun v0 I' J' => v0 = sp_of S s x what ∧ cIv I' J' S ∧ cfr I J I' J') :=
  (c8_of (S := S) s x what h.2.1).mono (fun r I' J' q => by
    obtain ⟨v, rfl, q1, rfl, rfl⟩ := q
    exact ⟨v, rfl, q1, h, cfr.rf⟩)
theorem w8_many {S : xSt} (what : Int32) (h : cIv I J S) : xCon G M_X8_many [.ref (G.1 0), .int what] I J (xpi fun v0 I' J' => v0 = sp_many S what ∧ cIv I' J' S ∧ cfr I J I' J') :=
  (c8_many (S := S) what h.2.1).mono (fun r I' J' q => by
    obtain ⟨v, rfl, q1, rfl, rfl⟩ := q
    exact ⟨v, rfl, q1, h, cfr.rf⟩)
theorem w8_put {S : xSt} (spot a b c d : Int32) (h : cIv I J S) : xCon G M_X8_put [.ref (G.1 0), .int spot, .int a, .int b, .int c, .int d] I J (xpi fun v0 I' J' => v0 = (sp_put S spot a b c d).1 ∧ cIv I' J' (sp_put S spot a b c d).2 ∧ cfr I J I' J') :=
  (c8_put (S := S) spot a b c d h.2.1 h.2.2.1).mono (fun r0 I' J' q => by
    obtain ⟨v, rfl, q⟩ := q
    exact ⟨v, rfl, h.po q⟩)
theorem w8_wipe {S : xSt} (spot : Int32) (h : cIv I J S) : xCon G M_X8_wipe [.ref (G.1 0), .int spot] I J (xpi fun v0 I' J' => v0 = (sp_wipe S spot).1 ∧ cIv I' J' (sp_wipe S spot).2 ∧ cfr I J I' J') :=
  (c8_wipe (S := S) spot h.ok h.2.2.1).mono (fun r0 I' J' q => by
    obtain ⟨v, rfl, q⟩ := q
    exact ⟨v, rfl, h.po q⟩)
theorem w8_times {S : xSt} (a b to : Int32) (h : cIv I J S) : xCon G M_X8_times [.ref (G.1 0), .int a, .int b, .int to] I J (xpi fun v0 I' J' => v0 = (sp_times S a b to).1 ∧ cIv I' J' (sp_times S a b to).2 ∧ cfr I J I' J') :=
  (c8_times (S := S) a b to h.ok h.2.2.1).mono (fun r0 I' J' q => by
    obtain ⟨v, rfl, q⟩ := q
    exact ⟨v, rfl, h.po q⟩)
theorem w8_turn {S : xSt} (a to : Int32) (h : cIv I J S) : xCon G M_X8_turn [.ref (G.1 0), .int a, .int to] I J (xpi fun v0 I' J' => v0 = (sp_turn S a to).1 ∧ cIv I' J' (sp_turn S a to).2 ∧ cfr I J I' J') :=
  (c8_turn (S := S) a to h.2.1 h.2.2.1).mono (fun r0 I' J' q => by
    obtain ⟨v, rfl, q⟩ := q
    exact ⟨v, rfl, h.po q⟩)
theorem w8_part {S : xSt} (a row to : Int32) (h : cIv I J S) : xCon G M_X8_part [.ref (G.1 0), .int a, .int row, .int to] I J (xpi fun v0 I' J' => v0 = (sp_part S a row to).1 ∧ cIv I' J' (sp_part S a row to).2 ∧ cfr I J I' J') :=
  (c8_part (S := S) a row to h.2.1 h.2.2.1).mono (fun r0 I' J' q => by
    obtain ⟨v, rfl, q⟩ := q
    exact ⟨v, rfl, h.po q⟩)
theorem w8_size {S : xSt} (spot : Int32) (h : cIv I J S) : xCon G M_X8_size [.ref (G.1 0), .int spot] I J (xpi fun v0 I' J' => v0 = sp_size S spot ∧ cIv I' J' S ∧ cfr I J I' J') :=
  (c8_size (S := S) spot h.ok h.2.2.1).mono (fun r I' J' q => by
    obtain ⟨v, rfl, q1, rfl, rfl⟩ := q
    exact ⟨v, rfl, q1, h, cfr.rf⟩)
theorem w8_token {S : xSt} (spot i : Int32) (h : cIv I J S) : xCon G M_X8_token [.ref (G.1 0), .int spot, .int i] I J (xpi fun v0 I' J' => v0 = sp_token S spot i ∧ cIv I' J' S ∧ cfr I J I' J') :=
  (c8_token (S := S) spot i h.ok h.2.2.1).mono (fun r I' J' q => by
    obtain ⟨v, rfl, q1, rfl, rfl⟩ := q
    exact ⟨v, rfl, q1, h, cfr.rf⟩)
theorem w8_act {S : xSt} (spot row : Int32) (h : cIv I J S) : xCon G M_X8_act [.ref (G.1 0), .int spot, .int row] I J (xpi fun v0 I' J' => v0 = sp_act S spot row ∧ cIv I' J' S ∧ cfr I J I' J') :=
  (c8_act (S := S) spot row h.2.1 h.2.2.1).mono (fun r0 I' J' q => by
    obtain ⟨v, rfl, q1, f⟩ := q
    obtain ⟨h1, h2, h3, h4, h5, h6, h7⟩ := h
    exact ⟨v, rfl, q1, ⟨h1.fx f (by decide), f.mc h2 (by decide), h3.fx f (by decide), h4.fx f (by decide), h5.fx f (by decide), kT.fx h6 f (by decide), h7.fx f (by decide)⟩, f.fr (by decide)⟩)
theorem w8_same {S : xSt} (a b : Int32) (h : cIv I J S) : xCon G M_X8_same [.ref (G.1 0), .int a, .int b] I J (xpi fun v0 I' J' => v0 = sp_same S a b ∧ cIv I' J' S ∧ cfr I J I' J') :=
  (c8_same (S := S) a b h.2.1 h.2.2.1 h.2.2.2.1).mono (fun r0 I' J' q => by
    obtain ⟨v, rfl, q1, q2, f⟩ := q
    obtain ⟨h1, h2, h3, h4, h5, h6, h7⟩ := h
    exact ⟨v, rfl, q1, ⟨h1.fx f (by decide), f.mc h2 (by decide), h3.fx f (by decide), q2, h5.fx f (by decide), kT.fx h6 f (by decide), h7.fx f (by decide)⟩, f.fr (by decide)⟩)
theorem w8_apart {S : xSt} (a b : Int32) (h : cIv I J S) : xCon G M_X8_apart [.ref (G.1 0), .int a, .int b] I J (xpi fun v0 I' J' => v0 = sp_apart S a b ∧ cIv I' J' S ∧ cfr I J I' J') :=
  (c8_apart (S := S) a b h.2.1 h.2.2.1 h.2.2.2.1).mono (fun r0 I' J' q => by
    obtain ⟨v, rfl, q1, q2, f⟩ := q
    obtain ⟨h1, h2, h3, h4, h5, h6, h7⟩ := h
    exact ⟨v, rfl, q1, ⟨h1.fx f (by decide), f.mc h2 (by decide), h3.fx f (by decide), q2, h5.fx f (by decide), kT.fx h6 f (by decide), h7.fx f (by decide)⟩, f.fr (by decide)⟩)
theorem w8_heap {S : xSt} (a : Int32) (h : cIv I J S) : xCon G M_X8_heap [.ref (G.1 0), .int a] I J (xpi fun v0 I' J' => v0 = sp_heap S a ∧ cIv I' J' S ∧ cfr I J I' J') :=
  (c8_heap (S := S) a h.2.1 h.2.2.1 h.2.2.2.1).mono (fun r0 I' J' q => by
    obtain ⟨v, rfl, q1, q2, f⟩ := q
    obtain ⟨h1, h2, h3, h4, h5, h6, h7⟩ := h
    exact ⟨v, rfl, q1, ⟨h1.fx f (by decide), f.mc h2 (by decide), h3.fx f (by decide), q2, h5.fx f (by decide), kT.fx h6 f (by decide), h7.fx f (by decide)⟩, f.fr (by decide)⟩)
theorem w8_least {S : xSt} (a : Int32) (h : cIv I J S) : xCon G M_X8_least [.ref (G.1 0), .int a] I J (xpi fun v0 I' J' => v0 = sp_least S a ∧ cIv I' J' S ∧ cfr I J I' J') :=
  (c8_least (S := S) a h.2.1 h.2.2.1 h.2.2.2.1).mono (fun r0 I' J' q => by
    obtain ⟨v, rfl, q1, q2, f⟩ := q
    obtain ⟨h1, h2, h3, h4, h5, h6, h7⟩ := h
    exact ⟨v, rfl, q1, ⟨h1.fx f (by decide), f.mc h2 (by decide), h3.fx f (by decide), q2, h5.fx f (by decide), kT.fx h6 f (by decide), h7.fx f (by decide)⟩, f.fr (by decide)⟩)
theorem w8_order {S : xSt} (a n : Int32) (h : cIv I J S) : xCon G M_X8_order [.ref (G.1 0), .int a, .int n] I J (xpi fun v0 I' J' => v0 = sp_order S a n ∧ cIv I' J' S ∧ cfr I J I' J') :=
  (c8_order (S := S) a n h.2.1 h.2.2.1 h.2.2.2.2.1).mono (fun r0 I' J' q => by
    obtain ⟨v, rfl, q1, q2, f⟩ := q
    obtain ⟨h1, h2, h3, h4, h5, h6, h7⟩ := h
    exact ⟨v, rfl, q1, ⟨h1.fx f (by decide), f.mc h2 (by decide), h3.fx f (by decide), h4.fx f (by decide), q2, kT.fx h6 f (by decide), h7.fx f (by decide)⟩, f.fr (by decide)⟩)
theorem w8_orbits {S : xSt} (n : Int32) (h : cIv I J S) : xCon G M_X8_orbits [.ref (G.1 0), .int n] I J (xpi fun v0 I' J' => v0 = sp_orbits S n ∧ cIv I' J' S ∧ cfr I J I' J') :=
  (c8_orbits (S := S) n h.2.1 h.2.2.2.2.1).mono (fun r0 I' J' q => by
    obtain ⟨v, rfl, q1, q2, f⟩ := q
    obtain ⟨h1, h2, h3, h4, h5, h6, h7⟩ := h
    exact ⟨v, rfl, q1, ⟨h1.fx f (by decide), f.mc h2 (by decide), h3.fx f (by decide), h4.fx f (by decide), q2, kT.fx h6 f (by decide), h7.fx f (by decide)⟩, f.fr (by decide)⟩)
theorem w8_orbit {S : xSt} (row : Int32) (h : cIv I J S) : xCon G M_X8_orbit [.ref (G.1 0), .int row] I J (xpi fun v0 I' J' => v0 = sp_orbit S row ∧ cIv I' J' S ∧ cfr I J I' J') :=
  (c8_orbit (S := S) row h.2.1 h.2.2.2.2.1).mono (fun r0 I' J' q => by
    obtain ⟨v, rfl, q1, q2, f⟩ := q
    obtain ⟨h1, h2, h3, h4, h5, h6, h7⟩ := h
    exact ⟨v, rfl, q1, ⟨h1.fx f (by decide), f.mc h2 (by decide), h3.fx f (by decide), h4.fx f (by decide), q2, kT.fx h6 f (by decide), h7.fx f (by decide)⟩, f.fr (by decide)⟩)
theorem w8_reach {S : xSt} (row : Int32) (h : cIv I J S) : xCon G M_X8_reach [.ref (G.1 0), .int row] I J (xpi fun v0 I' J' => v0 = sp_reach S row ∧ cIv I' J' S ∧ cfr I J I' J') :=
  (c8_reach (S := S) row h.2.1 h.2.2.2.2.1).mono (fun r0 I' J' q => by
    obtain ⟨v, rfl, q1, q2, f⟩ := q
    obtain ⟨h1, h2, h3, h4, h5, h6, h7⟩ := h
    exact ⟨v, rfl, q1, ⟨h1.fx f (by decide), f.mc h2 (by decide), h3.fx f (by decide), h4.fx f (by decide), q2, kT.fx h6 f (by decide), h7.fx f (by decide)⟩, f.fr (by decide)⟩)
theorem w8_way {S : xSt} (a c i : Int32) (h : cIv I J S) : xCon G M_X8_way [.ref (G.1 0), .int a, .int c, .int i] I J (xpi fun v0 I' J' => v0 = sp_way S a c i ∧ cIv I' J' S ∧ cfr I J I' J') :=
  (c8_way (S := S) a c i h.2.1 h.2.2.2.2.1).mono (fun r0 I' J' q => by
    obtain ⟨v, rfl, q1, q2, f⟩ := q
    obtain ⟨h1, h2, h3, h4, h5, h6, h7⟩ := h
    exact ⟨v, rfl, q1, ⟨h1.fx f (by decide), f.mc h2 (by decide), h3.fx f (by decide), h4.fx f (by decide), q2, kT.fx h6 f (by decide), h7.fx f (by decide)⟩, f.fr (by decide)⟩)
theorem w8_far {S : xSt} (a c : Int32) (h : cIv I J S) : xCon G M_X8_far [.ref (G.1 0), .int a, .int c] I J (xpi fun v0 I' J' => v0 = sp_far S a c ∧ cIv I' J' S ∧ cfr I J I' J') :=
  (c8_far (S := S) a c h.2.1 h.2.2.2.2.1).mono (fun r0 I' J' q => by
    obtain ⟨v, rfl, q1, -, q2, f⟩ := q
    obtain ⟨h1, h2, h3, h4, h5, h6, h7⟩ := h
    exact ⟨v, rfl, q1, ⟨h1.fx f (by decide), f.mc h2 (by decide), h3.fx f (by decide), h4.fx f (by decide), q2, kT.fx h6 f (by decide), h7.fx f (by decide)⟩, f.fr (by decide)⟩)
theorem w8_group {S : xSt} (n : Int32) (h : cIv I J S) : xCon G M_X8_group [.ref (G.1 0), .int n] I J (xpi fun v0 I' J' => v0 = sp_group S n ∧ cIv I' J' S ∧ cfr I J I' J') :=
  (c8_group (S := S) n h.2.1 h.2.2.2.2.1 h.2.2.2.2.2.1).mono (fun r0 I' J' q => by
    obtain ⟨v, rfl, q1, q2, q3, f⟩ := q
    obtain ⟨h1, h2, h3, h4, h5, h6, h7⟩ := h
    exact ⟨v, rfl, q1, ⟨h1.fx f (by decide), f.mc h2 (by decide), h3.fx f (by decide), h4.fx f (by decide), q2, q3, h7.fx f (by decide)⟩, f.fr (by decide)⟩)
theorem w8_growth {S : xSt} (m : Int32) (h : cIv I J S) : xCon G M_X8_growth [.ref (G.1 0), .int m] I J (xpi fun v0 I' J' => v0 = sp_growth S m ∧ cIv I' J' S ∧ cfr I J I' J') :=
  (c8_growth (S := S) m h.2.1 h.2.2.2.2.2.2).mono (fun r0 I' J' q => by
    obtain ⟨v, rfl, q1, q2, f⟩ := q
    obtain ⟨h1, h2, h3, h4, h5, h6, h7⟩ := h
    exact ⟨v, rfl, q1, ⟨h1.fx f (by decide), f.mc h2 (by decide), h3.fx f (by decide), h4.fx f (by decide), h5.fx f (by decide), kT.fx h6 f (by decide), q2⟩, f.fr (by decide)⟩)
theorem w8_laws {S : xSt} (m : Int32) (h : cIv I J S) : xCon G M_X8_laws [.ref (G.1 0), .int m] I J (xpi fun v0 I' J' => v0 = sp_laws S m ∧ cIv I' J' S ∧ cfr I J I' J') :=
  (c8_laws (S := S) m h.2.1 h.2.2.2.2.2.2).mono (fun r0 I' J' q => by
    obtain ⟨v, rfl, q1, q2, f⟩ := q
    obtain ⟨h1, h2, h3, h4, h5, h6, h7⟩ := h
    exact ⟨v, rfl, q1, ⟨h1.fx f (by decide), f.mc h2 (by decide), h3.fx f (by decide), h4.fx f (by decide), h5.fx f (by decide), kT.fx h6 f (by decide), q2⟩, f.fr (by decide)⟩)
theorem w8_fall {S : xSt} (d : Int32) (h : cIv I J S) : xCon G M_X8_fall [.ref (G.1 0), .int d] I J (xpi fun v0 I' J' => v0 = sp_fall S d ∧ cIv I' J' S ∧ cfr I J I' J') :=
  (c8_fall (S := S) d h.2.1 h.2.2.2.2.2.2).mono (fun r0 I' J' q => by
    obtain ⟨v, rfl, q1, q2, f⟩ := q
    obtain ⟨h1, h2, h3, h4, h5, h6, h7⟩ := h
    exact ⟨v, rfl, q1, ⟨h1.fx f (by decide), f.mc h2 (by decide), h3.fx f (by decide), h4.fx f (by decide), h5.fx f (by decide), kT.fx h6 f (by decide), q2⟩, f.fr (by decide)⟩)
theorem w8_law {S : xSt} (m i to : Int32) (h : cIv I J S) : xCon G M_X8_law [.ref (G.1 0), .int m, .int i, .int to] I J (xpi fun v0 I' J' => v0 = (sp_law S m i to).1 ∧ cIv I' J' (sp_law S m i to).2 ∧ cfr I J I' J') :=
  (c8_law (S := S) m i to h.2.1 h.2.2.1 h.2.2.2.2.2.2).mono (fun r0 I' J' q => by
    obtain ⟨v, rfl, q1, q2, q3, q4, q5, f⟩ := q
    obtain ⟨h1, h2, h3, h4, h5, h6, h7⟩ := h
    exact ⟨v, rfl, q1, ⟨by rw [q2]; exact h1.fx f (by decide), by rw [q3]; exact f.mc h2 (by decide), by rw [q3]; exact q4, h4.fx f (by decide), by rw [q3]; exact h5.fx f (by decide), kT.fx h6 f (by decide), by rw [q3]; exact q5⟩, f.fr (by decide)⟩)
theorem w8_fallen {S : xSt} (d i to : Int32) (h : cIv I J S) : xCon G M_X8_fallen [.ref (G.1 0), .int d, .int i, .int to] I J (xpi fun v0 I' J' => v0 = (sp_fallen S d i to).1 ∧ cIv I' J' (sp_fallen S d i to).2 ∧ cfr I J I' J') :=
  (c8_fallen (S := S) d i to h.2.1 h.2.2.1 h.2.2.2.2.2.2).mono (fun r0 I' J' q => by
    obtain ⟨v, rfl, q1, q2, q3, q4, q5, f⟩ := q
    obtain ⟨h1, h2, h3, h4, h5, h6, h7⟩ := h
    exact ⟨v, rfl, q1, ⟨by rw [q2]; exact h1.fx f (by decide), by rw [q3]; exact f.mc h2 (by decide), by rw [q3]; exact q4, h4.fx f (by decide), by rw [q3]; exact h5.fx f (by decide), kT.fx h6 f (by decide), by rw [q3]; exact q5⟩, f.fr (by decide)⟩)
theorem w9_told {S : xSt} (r i : Int32) (h : mIv I S) : xCon G M_X9_told [.ref (G.1 77), .int r, .int i] I J (xpi fun v I' J' => v = sp_told S r i ∧ mIv I' S ∧ mfr I J I' J') :=
  (c9_told (S := S) r i h).mono (fun r0 I' J' q => by
    obtain ⟨v, rfl, q1, rfl, rfl⟩ := q
    exact ⟨v, rfl, q1, h, fun _ _ => ⟨rfl, rfl⟩⟩)
theorem w9_size {S : xSt} (spot : Int32) (h : mIv I S) : xCon G M_X9_size [.ref (G.1 77), .int spot] I J (xpi fun v I' J' => v = sp_size S spot ∧ mIv I' S ∧ mfr I J I' J') :=
  (c9_size (S := S) spot h).mono (fun r0 I' J' q => by
    obtain ⟨v, rfl, q1, rfl, rfl⟩ := q
    exact ⟨v, rfl, q1, h, fun _ _ => ⟨rfl, rfl⟩⟩)
theorem w9_token {S : xSt} (spot i : Int32) (h : mIv I S) : xCon G M_X9_token [.ref (G.1 77), .int spot, .int i] I J (xpi fun v I' J' => v = sp_token S spot i ∧ mIv I' S ∧ mfr I J I' J') :=
  (c9_token (S := S) spot i h).mono (fun r0 I' J' q => by
    obtain ⟨v, rfl, q1, rfl, rfl⟩ := q
    exact ⟨v, rfl, q1, h, fun _ _ => ⟨rfl, rfl⟩⟩)
theorem w9_fall {S : xSt} (d : Int32) (h : mIv I S) : xCon G M_X9_fall [.ref (G.1 77), .int d] I J (xpi fun v I' J' => v = sp_fall S d ∧ mIv I' S ∧ mfr I J I' J') :=
  (c9_fall (S := S) d h).mono (fun r0 I' J' q => by
    obtain ⟨v, rfl, q1, q2, -, q3⟩ := q
    exact ⟨v, rfl, q1, q2, q3⟩)
theorem w9_far {S : xSt} (a b : Int32) (h : mIv I S) : xCon G M_X9_far [.ref (G.1 77), .int a, .int b] I J (xpi fun v I' J' => v = sp_far S a b ∧ mIv I' S ∧ mfr I J I' J') :=
  (c9_far (S := S) a b h).mono (fun r0 I' J' q => by
    obtain ⟨v, rfl, q1, -, f, rfl⟩ := q
    exact ⟨v, rfl, q1, f.iv h (by decide) (by decide), f.fr (by decide) rfl⟩)
end B6
