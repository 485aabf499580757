-- the reference's heap: a list of words
def mHp (I : xI) (hs : List (List Nat)) : Prop := I 77 21 = nI hs.length ∧ hs.length ≤ 201 ∧ ∀ h (hh : h < hs.length), hs[h].length ≤ 16 ∧ I 90 h = nI hs[h].length ∧ lrep (I 89) (16 * h) hs[h] tok
theorem mHp.cg {I I' : xI} {hs : List (List Nat)} (h : mHp I hs) (h7 : I' 77 21 = I 77 21) (h89 : I' 89 = I 89) (h90 : I' 90 = I 90) : mHp I' hs := ⟨h7.trans h.1, h.2.1, fun k hk => ⟨(h.2.2 k hk).1, by rw [h90]; exact (h.2.2 k hk).2.1, by rw [h89]; exact (h.2.2 k hk).2.2⟩⟩
theorem mfx.hp {A T : List Nat} {I I' : xI} {hs : List (List Nat)} (hf : mfx A T I I') (h : mHp I hs) (hA : 89 ∉ A ∧ 90 ∉ A) (hT : 21 ∉ T) : mHp I' hs := h.cg (hf.2 _ hT) (hf.1 _ hA.1 (by decide)) (hf.1 _ hA.2 (by decide))
/-- where a word stands -/
def hIs (hs : List (List Nat)) (ws : List Nat) (o : Option Nat) : Prop := match o with
  | none => ws ∉ hs
  | some j => ∃ h : j < hs.length, hs[j] = ws
theorem lrep.eq {f g : Nat → Int32} {o p : Nat} {a b : List Nat} (ha : lrep f o a tok) (hb : lrep g p b tok) (hal : ∀ m ∈ a, m < 1000) (hbl : ∀ m ∈ b, m < 1000) (hl : a.length = b.length) (h : ∀ i, i < b.length → f (o + i) = g (p + i)) : a = b := by
  apply List.ext_getElem hl
  intro i h1 h2
  have := h i h2
  rw [ha i h1, hb i h2] at this
  exact tok_inj (hal _ (List.getElem_mem h1)) (hbl _ (List.getElem_mem h2)) this
