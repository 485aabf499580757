/-- what a method of the reference may change: cells of A, numbers of T of the object itself -/
def mfx (A T : List Nat) (I I' : xI) : Prop := (∀ a, a ∉ A → a ≠ 77 → I' a = I a) ∧ ∀ j, j ∉ T → I' 77 j = I 77 j
theorem mfx.rf {A T : List Nat} {I : xI} : mfx A T I I := ⟨fun _ _ _ => rfl, fun _ _ => rfl⟩
theorem mfx.tr {A T : List Nat} {I I1 I2 : xI} (h1 : mfx A T I I1) (h2 : mfx A T I1 I2) : mfx A T I I2 := ⟨fun a ha h => (h2.1 a ha h).trans (h1.1 a ha h), fun j hj => (h2.2 j hj).trans (h1.2 j hj)⟩
theorem mfx.mono {A T A' T' : List Nat} {I I' : xI} (h : mfx A T I I') (hA : ∀ a ∈ A, a ∈ A') (hT : ∀ a ∈ T, a ∈ T') : mfx A' T' I I' := ⟨fun a ha h7 => h.1 a (fun q => ha (hA a q)) h7, fun j hj => h.2 j (fun q => hj (hT j q))⟩
theorem mfx.up {A T : List Nat} {I I1 : xI} (h : mfx A T I I1) {k : Nat} (f : Nat → Int32) (hk : k ∈ A) (h7 : k ≠ 77) : mfx A T I (va_up I1 k f) := ⟨fun a ha q => by rw [va_up_ne _ _ (fun e : a = k => ha (by rw [e]; exact hk))]; exact h.1 a ha q, fun j hj => by rw [va_up_ne _ _ (fun e => h7 e.symm)]; exact h.2 j hj⟩
theorem mfx.up7 {A T : List Nat} {I I1 : xI} (h : mfx A T I I1) {j : Nat} (v : Int32) (hj : j ∈ T) : mfx A T I (va_up I1 77 (upd (I1 77) j v)) := ⟨fun a ha q => by rw [va_up_ne _ _ q]; exact h.1 a ha q, fun i hi => by rw [up_same, upd_ne _ _ (fun e : i = j => hi (by rw [e]; exact hj))]; exact h.2 i hi⟩
theorem mfx.mach {A T : List Nat} {I I' : xI} {M : xMac} (hf : mfx A T I I') (h : mMach I M) (hA : 81 ∉ A ∧ 82 ∉ A) (hT : 3 ∉ T ∧ 4 ∉ T) : mMach I' M := h.cg (hf.2 _ hT.1) (hf.2 _ hT.2) (hf.1 _ hA.1 (by decide)) (hf.1 _ hA.2 (by decide))
theorem mfx.sh {A T : List Nat} {I I' : xI} {sh : xSh} (hf : mfx A T I I') (h : mSh I sh) (hA : 78 ∉ A ∧ 79 ∉ A ∧ 80 ∉ A) : mSh I' sh := h.cg (hf.1 _ hA.1 (by decide)) (hf.1 _ hA.2.1 (by decide)) (hf.1 _ hA.2.2 (by decide))
theorem mfx.iv {A T : List Nat} {I I' : xI} {S : xSt} (hf : mfx A T I I') (h : mIv I S) (hA : ∀ a ∈ [78, 79, 80, 81, 82, 83, 84], a ∉ A) (hT : 3 ∉ T ∧ 4 ∉ T) : mIv I' S :=
  ⟨hf.sh h.1 ⟨hA 78 (by decide), hA 79 (by decide), hA 80 (by decide)⟩, hf.mach h.2.1 ⟨hA 81 (by decide), hA 82 (by decide)⟩ hT, h.2.2.cg (hf.1 83 (hA 83 (by decide)) (by decide)) (hf.1 84 (hA 84 (by decide)) (by decide))⟩
theorem mfx.fr {A T : List Nat} {I I' : xI} {J J' : xJ} (hf : mfx A T I I') (hA : ∀ a ∈ A, 77 ≤ a) (hJ : J = J') : mfr I J I' J' := fun a ha => ⟨hf.1 a (fun q => by have := hA a q; omega) (by omega), by rw [hJ]⟩
-- a list in an array
def lrep (f : Nat → Int32) (o : Nat) (l : List Nat) (g : Nat → Int32) : Prop := ∀ i (h : i < l.length), f (o + i) = g l[i]
theorem lrep.push {f : Nat → Int32} {o : Nat} {l : List Nat} {g : Nat → Int32} (h : lrep f o l g) (x : Nat) {v : Int32} (hv : v = g x) : lrep (upd f (o + l.length) v) o (l ++ [x]) g := by
  intro i hi
  by_cases e : i = l.length
  · subst e
    rw [upd_same, hv]
    simp
  · have hl : i < l.length := by simp at hi; omega
    rw [upd_ne _ _ (by omega), h i hl, List.getElem_append_left hl]
theorem lrep.cg {f f' : Nat → Int32} {o : Nat} {l : List Nat} {g : Nat → Int32} (h : lrep f o l g) (hf : ∀ i, i < l.length → f' (o + i) = f (o + i)) : lrep f' o l g := fun i hi => by rw [hf i hi]; exact h i hi
theorem lrep.nil {f : Nat → Int32} {o : Nat} {g : Nat → Int32} : lrep f o [] g := fun i h => by simp at h
theorem lrep.take {f : Nat → Int32} {o : Nat} {l : List Nat} {g : Nat → Int32} (h : lrep f o l g) : lrep f o l.dropLast g := fun i hi => by
  rw [List.length_dropLast] at hi
  rw [h i (by omega), List.getElem_dropLast]
-- the tokens
noncomputable def mMk (M : xMac) (s : Nat) : List Nat := (List.range s).flatMap (fun s => if mB M s then [2 * s, 2 * s + 1] else [2 * s])
theorem mMk_succ (M : xMac) (s : Nat) : mMk M (s + 1) = mMk M s ++ (if mB M s then [2 * s, 2 * s + 1] else [2 * s]) := by
  unfold mMk
  rw [List.range_succ, List.flatMap_append]
  simp
theorem mMk_len (M : xMac) : ∀ s, (mMk M s).length ≤ 2 * s
  | 0 => by simp [mMk]
  | s + 1 => by
    have := mMk_len M s
    rw [mMk_succ, List.length_append]
    split <;> simp <;> omega
def mTk (I : xI) (M : xMac) : Prop := I 77 11 = nI (mMarks M).length ∧ lrep (I 86) 0 (mMarks M) tok
theorem tok_even (s : Nat) : tok (2 * s) = nI (s + 1) := by
  unfold tok
  rw [if_pos (by omega), show 2 * s / 2 = s by omega]
theorem tok_odd (s : Nat) : tok (2 * s + 1) = - nI (s + 1) := by
  unfold tok
  rw [if_neg (by omega), show (2 * s + 1) / 2 = s by omega]
theorem mMarks_len (M : xMac) : (mMarks M).length ≤ 2 * mN M := mMk_len M (mN M)
