section C05
variable {G : xG} {I : xI} {J : xJ}
def cfb (I I' : xI) : Prop := (∀ a, a ≠ 21 → I' a = I a) ∧ ∀ j, j ≠ 8 → j ≠ 9 → I' 21 j = I 21 j
theorem cfb.rf {I : xI} : cfb I I := ⟨fun _ _ => rfl, fun _ _ _ => rfl⟩
theorem cfb.up {I I1 : xI} (f : cfb I I1) {k : Nat} (v : Int32) (hk : k = 8 ∨ k = 9) : cfb I (va_up I1 21 (upd (I1 21) k v)) := ⟨fun a ha => by rw [va_up_ne _ _ ha]; exact f.1 a ha, fun j h1 h2 => by rw [up_same, upd_ne _ _ (by omega)]; exact f.2 j h1 h2⟩
theorem cfb.mb {I I' : xI} {M : xMac} (f : cfb I I') (h : cMb I M) : cMb I' M := ⟨h.1, by rw [f.2 6 (by decide) (by decide)]; exact h.2.1, by rw [f.2 7 (by decide) (by decide)]; exact h.2.2.1, by rw [f.1 22 (by decide), f.1 23 (by decide)]; exact h.2.2.2⟩
def hasMiss (M : xMac) (s : Nat) : Prop := ∃ x g, x < mK M ∧ mGo M s x = some g ∧ mN M ≤ g
theorem gset_iff {M : xMac} {s n i : Nat} : gset M s n i = true ↔ ∃ x, x < n ∧ mGo M s x = some i := by
  unfold gset
  rw [List.any_eq_true]
  constructor
  · rintro ⟨x, hx, e⟩; exact ⟨x, List.mem_range.mp hx, beq_iff_eq.mp e⟩
  · rintro ⟨x, hx, e⟩; exact ⟨x, List.mem_range.mpr hx, beq_iff_eq.mpr e⟩
theorem and_set {M : xMac} (hM : mOk M) {s : Nat} (hs : s < mN M) {v u : Int32} {c : Nat → Bool} (hv : ∀ i, i < 32 → tb v i = gset M s (mK M) i) (hu : ∀ i, i < 32 → tb u i = !c i) : v &&& u = 0 ↔ ∀ x g, x < mK M → mGo M s x = some g → c g = true := by
  rw [tb_z]
  constructor
  · intro h x g hx hg
    have hg8 := (hM.2.2.2 s x hs hx).2 g hg
    have := h g (by omega)
    rw [tb_and, hv g (by omega), hu g (by omega), gset_iff.mpr ⟨x, hx, hg⟩] at this
    simpa using this
  · intro h i hi
    rw [tb_and, hv i hi, hu i hi]
    cases hq : gset M s (mK M) i with
    | false => rfl
    | true =>
      obtain ⟨x, hx, hg⟩ := gset_iff.mp hq
      rw [h x i hx hg]
      rfl
theorem miss_iff {M : xMac} {s : Nat} : (∀ x g, x < mK M → mGo M s x = some g → decide (g < mN M) = true) ↔ ¬ hasMiss M s := by
  constructor
  · rintro h ⟨x, g, hx, hg, hn⟩
    have := of_decide_eq_true (h x g hx hg)
    omega
  · intro h x g hx hg
    apply decide_eq_true
    rcases Nat.lt_or_ge g (mN M) with q | q
    · exact q
    · exact absurd ⟨x, g, hx, hg, q⟩ h
theorem whole_iff {M : xMac} : mWhole M ↔ ∀ s, s < mN M → ¬ hasMiss M s := by
  constructor
  · rintro h s hs ⟨x, g, hx, hg, hn⟩
    have := h s x hs hx g hg
    omega
  · intro h s x hs hx g hg
    rcases Nat.lt_or_ge g (mN M) with q | q
    · exact q
    · exact absurd ⟨x, g, hx, hg, q⟩ (h s hs)
def cClosed (M : xMac) (c : Nat → Bool) : Prop := ∀ t, c t = true → ∀ x g, x < mK M → mGo M t x = some g → c g = true
theorem c3_refresh {M : xMac} (h : cMb I M) : xCon G M_X3_refresh [.ref (G.1 21)] I J (xpv fun I' J' => cMc I' M ∧ (∀ a, a ∉ [21, 24, 25, 26] → I' a = I a) ∧ J = J') := by
  have hM := h.1
  have hN8 := h.1.2.2.1
  have hK4 := h.1.2.1
  generalize hkn : (1 : Int32) <<< (nI (mN M) &&& 31) - 1 = kn
  generalize hms : kn ^^^ -1 = ms
  have tkn : ∀ i, i < 32 → tb kn i = decide (i < mN M) := fun i hi => by rw [← hkn]; exact tb_low (by omega) hi
  have tms : ∀ i, i < 32 → tb ms i = !decide (i < mN M) := fun i hi => by rw [← hms, tb_not _ hi, tkn i hi]
  have L2 : ∀ r, r ≤ mN M → ∀ I1 (z4 : Option Value) (c : Nat → Bool), cfb I I1 → I1 21 9 = b2 (mW M) → cBk I1 c → (∀ t, mBack M t → c t = true) → (∀ t, c t = true → t < mN M ∧ mFair M t ∧ ¬ hasMiss M t) → (cClosed M c ∨ r ≤ cnt (fun t => !c t) (mN M)) → xT G M_X3_refresh (xMQ G (xpv fun I' J' => cMc I' M ∧ (∀ a, a ∉ [21, 24, 25, 26] → I' a = I a) ∧ J = J')) 88 [some (.ref (G.1 21)), some (.int kn), some (.int ms), some (.int (nI r)), z4] [] I1 J := by
    refine x_for (fun r hr IH I1 z4 c f1 w1 b1 ca cb cc => ?_)
    refine xr_iload3 dX3_refresh_88 rfl ?_
    refine xr_aload0 dX3_refresh_89 rfl ?_
    refine xr_getIv dX3_refresh_90 fk_3_34 lay_21 rfl (f1.mb h).2.2.1 ?_
    refine xr_icmp_ge 151 dX3_refresh_93 (by decide) (fun hc => ?_) (fun hc => ?_)
    · have : r = mN M := by have := nle hc; omega
      subst this
      have hcl : cClosed M c := by
        rcases cc with cc | cc
        · exact cc
        · intro t ht
          have htn := (cb t ht).1
          have h1 : cnt (fun t => !c t) (mN M) < cnt (fun _ => true) (mN M) := cnt_lt (fun _ _ _ => rfl) (g := t) htn (by simp [ht]) rfl
          have h2 := cnt_le (fun _ => true) (mN M)
          omega
      have hce : ∀ t, c t = mB M t := fun t => by
        rw [Bool.eq_iff_iff, mB_iff]
        exact ⟨fun q => ⟨fun t => c t = true, q, fun t ht => ⟨(cb t ht).1, (cb t ht).2.1, fun x hx g hg => hcl t ht x g hx hg⟩⟩, ca t⟩
      refine xr_aload0 dX3_refresh_151 rfl ?_
      refine xr_cVv [] dX3_refresh_152 (xcv_of cf_X3_listMarks ml_3_70 (by decide)) rfl lay_21 rfl rfl rfl (Nat.le_of_ble_eq_true rfl) (c3_listMarks (f1.mb h) (fun i hi => by rw [b1 i hi, hce i])) (fun I2 J2 hc2 => ?_)
      obtain ⟨k2, w2, f2, rfl⟩ := hc2
      refine xr_vret dX3_refresh_155 rfl rfl ⟨⟨f2.mb (f1.mb h), fun i hi => ?_, ?_, k2, w2⟩, fun a ha => ?_, rfl⟩
      · rw [f2.2 8 (by decide), b1 i hi, hce i]
      · rw [f2.2 9 (by decide)]; exact w1
      · rw [f2.1 a ha, f1.1 a (fun q => ha (by rw [q]; simp))]
    have hrl := nlt hc
    have IH := IH hrl
    have Ls : ∀ s, s ≤ mN M → ∀ I2 (c' : Nat → Bool), cfb I I2 → I2 21 9 = b2 (mW M) → cBk I2 c' → (∀ t, mBack M t → c' t = true) → (∀ t, c' t = true → c t = true) → (cClosed M c → ∀ t, c' t = c t) → (∀ t, t < s → c' t = true → ∀ x g, x < mK M → mGo M t x = some g → c g = true) → xT G M_X3_refresh (xMQ G (xpv fun I' J' => cMc I' M ∧ (∀ a, a ∉ [21, 24, 25, 26] → I' a = I a) ∧ J = J')) 99 [some (.ref (G.1 21)), some (.int kn), some (.int ms), some (.int (nI r)), some (.int (nI s))] [] I2 J := by
      refine x_for (fun s hs IHs I2 c' f2 w2 b2' ca' le' eq' pr' => ?_)
      have h2 := f2.mb h
      refine xr_iload dX3_refresh_99 rfl ?_
      refine xr_aload0 dX3_refresh_101 rfl ?_
      refine xr_getIv dX3_refresh_102 fk_3_34 lay_21 rfl h2.2.2.1 ?_
      refine xr_icmp_ge 145 dX3_refresh_105 (by decide) (fun hc => ?_) (fun hc => ?_)
      · have : s = mN M := by have := nle hc; omega
        subst this
        refine xr_iinc dX3_refresh_145 rfl ii_1 (Nat.le_of_ble_eq_true rfl) ?_
        show xT _ _ _ 148 [_, _, _, _, _] _ _ _
        refine xr_goto 88 dX3_refresh_148 (by decide) ?_
        rw [k_1, nI_add]
        refine IH I2 _ c' f2 w2 b2' ca' (fun t ht => cb t (le' t ht)) ?_
        by_cases hcl : cClosed M c
        · have e := eq' hcl
          refine Or.inl (fun t ht x g hx hg => ?_)
          rw [e] at ht ⊢
          exact hcl t ht x g hx hg
        · right
          have : ∃ t, c t = true ∧ c' t = false := by
            refine Classical.byContradiction (fun hn => hcl (fun t ht x g hx hg => ?_))
            have ht' : c' t = true := by
              cases hq : c' t with
              | true => rfl
              | false => exact absurd ⟨t, ht, hq⟩ hn
            exact pr' t (cb t ht).1 ht' x g hx hg
          obtain ⟨t, ht, ht'⟩ := this
          have h1 : cnt (fun t => !c t) (mN M) < cnt (fun t => !c' t) (mN M) := cnt_lt (fun i _ hi => by
            cases hq : c' i with
            | false => rfl
            | true => have := le' i hq; simp [this] at hi) (g := t) (cb t ht).1 (by simp [ht]) (by simp [ht'])
          rcases cc with cc | cc
          · exact absurd cc hcl
          · omega
      have hsl := nlt hc
      have IHs := IHs hsl
      refine xr_aload0 dX3_refresh_108 rfl ?_
      refine xr_iload dX3_refresh_109 rfl ?_
      refine xr_cVi [_] dX3_refresh_111 (xcv_of cf_X3_goals ml_3_63 (by decide)) rfl lay_21 rfl rfl rfl (Nat.le_of_ble_eq_true rfl) (c3_goals h2 hsl) (fun v I3 J3 hc3 => ?_)
      obtain ⟨hv, rfl, rfl⟩ := hc3
      have tn : ∀ i, i < 32 → tb (I2 21 8 ^^^ -1) i = !c' i := fun i hi => by rw [tb_not _ hi, b2' i hi]
      have ha := and_set hM hsl hv tn
      refine xr_aload0 dX3_refresh_114 rfl ?_
      refine xr_getI dX3_refresh_115 fk_3_37 lay_21 rfl ?_
      refine xr_icm1 dX3_refresh_118 ?_
      refine xr_ixor dX3_refresh_119 ?_
      refine xr_iand dX3_refresh_120 ?_
      refine xr_if_eq 139 dX3_refresh_121 (by decide) (fun hz => ?_) (fun hz => ?_)
      · have hz := ha.mp hz
        refine xr_iinc dX3_refresh_139 rfl ii_1 (Nat.le_of_ble_eq_true rfl) ?_
        show xT _ _ _ 142 [_, _, _, _, _] _ _ _
        refine xr_goto 99 dX3_refresh_142 (by decide) ?_
        rw [k_1, nI_add]
        refine IHs I2 c' f2 w2 b2' ca' le' eq' (fun t ht hct x g hx hg => ?_)
        rcases Nat.lt_or_ge t s with q | q
        · exact pr' t q hct x g hx hg
        · have : t = s := by omega
          subst this
          exact le' g (hz x g hx hg)
      have hz : ¬ ∀ x g, x < mK M → mGo M s x = some g → c' g = true := fun q => hz (ha.mpr q)
      refine xr_aload0 dX3_refresh_124 rfl ?_
      refine xr_dup dX3_refresh_125 rfl ?_
      refine xr_getI dX3_refresh_126 fk_3_37 lay_21 rfl ?_
      refine xr_ic1 dX3_refresh_129 ?_
      refine xr_iload dX3_refresh_130 rfl ?_
      refine xr_ishl dX3_refresh_132 ?_
      refine xr_icm1 dX3_refresh_133 ?_
      refine xr_ixor dX3_refresh_134 ?_
      show xT _ _ _ 135 _ _ _ _
      refine xr_iand dX3_refresh_135 ?_
      refine xr_putI dX3_refresh_136 fp_3_37 lay_21 rfl ?_
      generalize hI3 : va_up I2 21 (upd (I2 21) 8 (I2 21 8 &&& ((1 : Int32) <<< (nI s &&& 31) ^^^ -1))) = I3
      have f3 : cfb I I3 := by rw [← hI3]; exact f2.up _ (Or.inl rfl)
      have w3 : I3 21 9 = b2 (mW M) := by rw [← hI3, up_same, upd_ne _ _ (by decide)]; exact w2
      have b3 : cBk I3 (fun i => c' i && !(i == s)) := fun i hi => by
        rw [← hI3, up_same, upd_same, tb_and, b2' i hi, tb_not _ hi, tb_shl (by omega) hi]
      refine xr_iinc dX3_refresh_139 rfl ii_1 (Nat.le_of_ble_eq_true rfl) ?_
      show xT _ _ _ 142 [_, _, _, _, _] _ _ _
      refine xr_goto 99 dX3_refresh_142 (by decide) ?_
      rw [k_1, nI_add]
      have hbk : ¬ mBack M s := fun q => hz (fun x g hx hg => ca' g (q.go hx hg))
      refine IHs I3 _ f3 w3 b3 (fun t ht => ?_) (fun t ht => ?_) (fun hcl t => ?_) (fun t ht hct x g hx hg => ?_)
      · have : t ≠ s := fun q => hbk (by rw [← q]; exact ht)
        simp [ca' t ht, this]
      · simp at ht; exact le' t ht.1
      · have e := eq' hcl
        by_cases q : t = s
        · subst q
          have : c t = false := by
            cases hq : c t with
            | false => rfl
            | true => exact absurd (fun x g hx hg => by rw [e]; exact hcl t hq x g hx hg) hz
          simp [this]
        · simp [q, e]
      · simp at hct
        rcases Nat.lt_or_ge t s with q | q
        · exact pr' t q hct.1 x g hx hg
        · exact absurd (by omega) hct.2
    refine xr_ic0 dX3_refresh_96 ?_
    refine xr_istore dX3_refresh_97 (Nat.le_of_ble_eq_true rfl) ?_
    show xT _ _ _ 99 [_, _, _, _, _] _ _ _
    exact Ls 0 (Nat.zero_le _) I1 c f1 w1 b1 ca (fun t ht => ht) (fun _ _ => rfl) (fun t ht => absurd ht (Nat.not_lt_zero _))
  have L1 : ∀ s, s ≤ mN M → ∀ I1 (z4 : Option Value) (w : Bool) (c : Nat → Bool), cfb I I1 → I1 21 9 = b2 w → (w = true ↔ ∀ s', s' < s → ¬ hasMiss M s') → cBk I1 c → (∀ t, c t = true ↔ t < mN M ∧ (t < s → ¬ hasMiss M t ∧ mFair M t)) → xT G M_X3_refresh (xMQ G (xpv fun I' J' => cMc I' M ∧ (∀ a, a ∉ [21, 24, 25, 26] → I' a = I a) ∧ J = J')) 25 [some (.ref (G.1 21)), some (.int kn), some (.int ms), some (.int (nI s)), z4] [] I1 J := by
    refine x_for (fun s hs IH I1 z4 w c f1 w1 hw b1 hc1 => ?_)
    have h1 := f1.mb h
    refine xr_iload3 dX3_refresh_25 rfl ?_
    refine xr_aload0 dX3_refresh_26 rfl ?_
    refine xr_getIv dX3_refresh_27 fk_3_34 lay_21 rfl h1.2.2.1 ?_
    refine xr_icmp_ge 86 dX3_refresh_30 (by decide) (fun hc => ?_) (fun hc => ?_)
    · have : s = mN M := by have := nle hc; omega
      subst this
      refine xr_ic0 dX3_refresh_86 ?_
      refine xr_istore3 dX3_refresh_87 (Nat.le_of_ble_eq_true rfl) ?_
      show xT _ _ _ 88 [_, _, _, _, _] _ _ _
      have hww : w = mW M := by rw [Bool.eq_iff_iff, mW_iff, whole_iff]; exact hw
      refine L2 0 (Nat.zero_le _) I1 _ c f1 (by rw [← hww]; exact w1) b1 (fun t ht => (hc1 t).mpr ⟨ht.lt, fun _ => ⟨fun ⟨x, g, hx, hg, hn⟩ => ?_, ht.fair⟩⟩) (fun t ht => ?_) (Or.inr (Nat.zero_le _))
      · have := (ht.go hx hg).lt; omega
      · have := (hc1 t).mp ht
        exact ⟨this.1, (this.2 this.1).2, (this.2 this.1).1⟩
    have hsl := nlt hc
    have IH := IH hsl
    have K80 : ∀ I2 (w' : Bool) (c' : Nat → Bool), cfb I I2 → I2 21 9 = b2 w' → (w' = true ↔ ∀ s', s' < s + 1 → ¬ hasMiss M s') → cBk I2 c' → (∀ t, c' t = true ↔ t < mN M ∧ (t < s + 1 → ¬ hasMiss M t ∧ mFair M t)) → xT G M_X3_refresh (xMQ G (xpv fun I' J' => cMc I' M ∧ (∀ a, a ∉ [21, 24, 25, 26] → I' a = I a) ∧ J = J')) 80 [some (.ref (G.1 21)), some (.int kn), some (.int ms), some (.int (nI s)), z4] [] I2 J := by
      intro I2 w' c' f2 w2 hw2 b2' hc2
      refine xr_iinc dX3_refresh_80 rfl ii_1 (Nat.le_of_ble_eq_true rfl) ?_
      show xT _ _ _ 83 [_, _, _, _, _] _ _ _
      refine xr_goto 25 dX3_refresh_83 (by decide) ?_
      rw [k_1, nI_add]
      exact IH I2 _ w' c' f2 w2 hw2 b2' hc2
    have K66 : ∀ I2 (w' : Bool), cfb I I2 → I2 21 9 = b2 w' → (w' = true ↔ ∀ s', s' < s + 1 → ¬ hasMiss M s') → cBk I2 c → (hasMiss M s ∨ ¬ mFair M s) → xT G M_X3_refresh (xMQ G (xpv fun I' J' => cMc I' M ∧ (∀ a, a ∉ [21, 24, 25, 26] → I' a = I a) ∧ J = J')) 66 [some (.ref (G.1 21)), some (.int kn), some (.int ms), some (.int (nI s)), z4] [] I2 J := by
      intro I2 w' f2 w2 hw2 b2' hbad
      refine xr_aload0 dX3_refresh_66 rfl ?_
      refine xr_dup dX3_refresh_67 rfl ?_
      refine xr_getI dX3_refresh_68 fk_3_37 lay_21 rfl ?_
      refine xr_ic1 dX3_refresh_71 ?_
      refine xr_iload3 dX3_refresh_72 rfl ?_
      refine xr_ishl dX3_refresh_73 ?_
      refine xr_icm1 dX3_refresh_74 ?_
      refine xr_ixor dX3_refresh_75 ?_
      show xT _ _ _ 76 _ _ _ _
      refine xr_iand dX3_refresh_76 ?_
      refine xr_putI dX3_refresh_77 fp_3_37 lay_21 rfl ?_
      generalize hI3 : va_up I2 21 (upd (I2 21) 8 (I2 21 8 &&& ((1 : Int32) <<< (nI s &&& 31) ^^^ -1))) = I3
      have f3 : cfb I I3 := by rw [← hI3]; exact f2.up _ (Or.inl rfl)
      have w3 : I3 21 9 = b2 w' := by rw [← hI3, up_same, upd_ne _ _ (by decide)]; exact w2
      have b3 : cBk I3 (fun i => c i && !(i == s)) := fun i hi => by
        rw [← hI3, up_same, upd_same, tb_and, b2' i hi, tb_not _ hi, tb_shl (by omega) hi]
      refine K80 I3 w' _ f3 w3 hw2 b3 (fun t => ?_)
      have := hc1 t
      simp only [Bool.and_eq_true, Bool.not_eq_true', beq_eq_false_iff_ne]
      rw [this]
      constructor
      · rintro ⟨⟨q1, q2⟩, q3⟩
        exact ⟨q1, fun q => q2 (by omega)⟩
      · rintro ⟨q1, q2⟩
        refine ⟨⟨q1, fun q => q2 (by omega)⟩, fun q => ?_⟩
        have := q2 (by omega)
        rw [q] at this
        rcases hbad with hb | hb
        · exact this.1 hb
        · exact hb this.2
    have K48 : ∀ I2 (w' : Bool), cfb I I2 → I2 21 9 = b2 w' → (w' = true ↔ ∀ s', s' < s + 1 → ¬ hasMiss M s') → cBk I2 c → xT G M_X3_refresh (xMQ G (xpv fun I' J' => cMc I' M ∧ (∀ a, a ∉ [21, 24, 25, 26] → I' a = I a) ∧ J = J')) 48 [some (.ref (G.1 21)), some (.int kn), some (.int ms), some (.int (nI s)), z4] [] I2 J := by
      intro I2 w' f2 w2 hw2 b2'
      have h2 := f2.mb h
      refine xr_aload0 dX3_refresh_48 rfl ?_
      refine xr_iload3 dX3_refresh_49 rfl ?_
      refine xr_cVi [_] dX3_refresh_50 (xcv_of cf_X3_goals ml_3_63 (by decide)) rfl lay_21 rfl rfl rfl (Nat.le_of_ble_eq_true rfl) (c3_goals h2 hsl) (fun v I3 J3 hc3 => ?_)
      obtain ⟨hv, rfl, rfl⟩ := hc3
      have ha := and_set hM hsl hv tms
      rw [miss_iff] at ha
      refine xr_iload2 dX3_refresh_53 rfl ?_
      refine xr_iand dX3_refresh_54 ?_
      refine xr_if_ne 66 dX3_refresh_55 (by decide) (fun hz => ?_) (fun hz => ?_)
      · exact K66 I2 w' f2 w2 hw2 b2' (Or.inl (Classical.not_not.mp (fun q => hz (ha.mpr q))))
      have hz := ha.mp hz
      refine xr_aload0 dX3_refresh_58 rfl ?_
      refine xr_iload3 dX3_refresh_59 rfl ?_
      refine xr_cVi [_] dX3_refresh_60 (xcv_of cf_X3_writesUnlike ml_3_67 (by decide)) rfl lay_21 rfl rfl rfl (Nat.le_of_ble_eq_true rfl) (c3_writesUnlike h2 hsl) (fun v I3 J3 hc3 => ?_)
      obtain ⟨rfl, rfl, rfl⟩ := hc3
      refine xr_if_ne 80 dX3_refresh_63 (by decide) (fun hf => ?_) (fun hf => ?_)
      · have hf : mFair M s := by
          cases hq : mF M s with
          | true => exact mF_iff.mp hq
          | false => rw [hq] at hf; exact absurd rfl hf
        refine K80 I2 w' c f2 w2 hw2 b2' (fun t => ?_)
        rw [hc1 t]
        constructor
        · rintro ⟨q1, q2⟩
          refine ⟨q1, fun q => ?_⟩
          rcases Nat.lt_or_ge t s with q3 | q3
          · exact q2 q3
          · have : t = s := by omega
            subst this
            exact ⟨hz, hf⟩
        · rintro ⟨q1, q2⟩
          exact ⟨q1, fun q => q2 (by omega)⟩
      · have hf : ¬ mFair M s := fun q => by rw [mF_iff.mpr q] at hf; exact absurd hf (by decide)
        exact K66 I2 w' f2 w2 hw2 b2' (Or.inr hf)
    refine xr_aload0 dX3_refresh_33 rfl ?_
    refine xr_iload3 dX3_refresh_34 rfl ?_
    refine xr_cVi [_] dX3_refresh_35 (xcv_of cf_X3_goals ml_3_63 (by decide)) rfl lay_21 rfl rfl rfl (Nat.le_of_ble_eq_true rfl) (c3_goals h1 hsl) (fun v I3 J3 hc3 => ?_)
    obtain ⟨hv, rfl, rfl⟩ := hc3
    have ha := and_set hM hsl hv tms
    rw [miss_iff] at ha
    refine xr_iload2 dX3_refresh_38 rfl ?_
    refine xr_iand dX3_refresh_39 ?_
    refine xr_if_eq 48 dX3_refresh_40 (by decide) (fun hz => ?_) (fun hz => ?_)
    · have hz := ha.mp hz
      refine K48 I1 w f1 w1 ?_ b1
      rw [hw]
      constructor
      · intro q s' hs'
        rcases Nat.lt_or_ge s' s with q3 | q3
        · exact q s' q3
        · have : s' = s := by omega
          subst this
          exact hz
      · exact fun q s' hs' => q s' (by omega)
    have hz : hasMiss M s := Classical.not_not.mp (fun q => hz (ha.mpr q))
    refine xr_aload0 dX3_refresh_43 rfl ?_
    refine xr_ic0 dX3_refresh_44 ?_
    refine xr_putZ dX3_refresh_45 fp_3_40 lay_21 rfl (by simp) ?_
    refine K48 _ false (f1.up _ (Or.inr rfl)) (by rw [up_same, upd_same]; rfl) ⟨(fun q => by cases q), fun q => absurd hz (q s (by omega))⟩ (fun i hi => ?_)
    rw [up_same, upd_ne _ _ (by decide)]
    exact b1 i hi
  refine x_ent (by decide) (Nat.le_of_ble_eq_true rfl) rfl ?_
  show xT _ _ _ 0 [_, _, _, _, _] _ _ _
  refine xr_ic1 dX3_refresh_0 ?_
  refine xr_aload0 dX3_refresh_1 rfl ?_
  refine xr_getIv dX3_refresh_2 fk_3_34 lay_21 rfl h.2.2.1 ?_
  refine xr_ishl dX3_refresh_5 ?_
  refine xr_ic1 dX3_refresh_6 ?_
  refine xr_isub dX3_refresh_7 ?_
  rw [hkn]
  refine xr_istore1 dX3_refresh_8 (Nat.le_of_ble_eq_true rfl) ?_
  show xT _ _ _ 9 [_, _, _, _, _] _ _ _
  refine xr_iload1 dX3_refresh_9 rfl ?_
  refine xr_icm1 dX3_refresh_10 ?_
  refine xr_ixor dX3_refresh_11 ?_
  rw [hms]
  refine xr_istore2 dX3_refresh_12 (Nat.le_of_ble_eq_true rfl) ?_
  show xT _ _ _ 13 [_, _, _, _, _] _ _ _
  refine xr_aload0 dX3_refresh_13 rfl ?_
  refine xr_ic1 dX3_refresh_14 ?_
  refine xr_putZ dX3_refresh_15 fp_3_40 lay_21 rfl (by simp) ?_
  refine xr_aload0 dX3_refresh_18 rfl ?_
  refine xr_iload1 dX3_refresh_19 rfl ?_
  refine xr_putI dX3_refresh_20 fp_3_37 lay_21 rfl ?_
  refine xr_ic0 dX3_refresh_23 ?_
  show xT _ _ _ 24 _ _ _ _
  refine xr_istore3 dX3_refresh_24 (Nat.le_of_ble_eq_true rfl) ?_
  show xT _ _ _ 25 [_, _, _, _, _] _ _ _
  refine L1 0 (Nat.zero_le _) _ _ true (fun i => decide (i < mN M)) ((cfb.rf.up _ (Or.inr rfl)).up _ (Or.inl rfl)) ?_ ⟨fun _ s' hs' => absurd hs' (Nat.not_lt_zero _), fun _ => rfl⟩ (fun i hi => ?_) (fun t => ?_)
  · rw [up_same, upd_ne _ _ (by decide), up_same, upd_same]; rfl
  · rw [up_same, upd_same]; exact tkn i hi
  · rw [decide_eq_true_iff]
    exact ⟨fun q => ⟨q, fun q2 => absurd q2 (Nat.not_lt_zero _)⟩, fun q => q.1⟩
end C05
