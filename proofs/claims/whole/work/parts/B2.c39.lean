section C39
variable {G : xG} {I : xI} {J : xJ}
theorem nd_at {α : Type} {l : List α} (hn : l.Nodup) {i j : Nat} {p : α} (h1 : l[i]? = some p) (h2 : l[j]? = some p) : i = j := by
  obtain ⟨a1, a2⟩ := List.getElem?_eq_some_iff.mp h1
  obtain ⟨b1, b2⟩ := List.getElem?_eq_some_iff.mp h2
  exact (List.getElem_inj hn).mp (a2.trans b2.symm)
def cFw (I : xI) (F hs : List (List Nat)) : Prop := I 56 6 = nI F.length ∧ F.length ≤ 20 ∧ ∀ k (hk : k < F.length), ∃ j, I 74 k = nI j ∧ hs[j]? = some F[k]
def seen (hs F : List (List Nat)) (c : Nat → Nat) (κ : Nat) : Prop := ∃ f ∈ F, ∃ j, hs[j]? = some f ∧ c j = κ
noncomputable def sn (P : Nat → Prop) (κ : Nat) : Int32 := @ite _ (P κ) (Classical.propDecidable _) 1 0
theorem sn_t {P : Nat → Prop} {κ : Nat} (h : P κ) : sn P κ = 1 := by unfold sn; rw [if_pos h]
theorem sn_f {P : Nat → Prop} {κ : Nat} (h : ¬ P κ) : sn P κ = 0 := by unfold sn; rw [if_neg h]
theorem sn_eq {P Q : Nat → Prop} {κ : Nat} (h : P κ ↔ Q κ) : sn P κ = sn Q κ := by
  by_cases q : P κ
  · rw [sn_t q, sn_t (h.mp q)]
  · rw [sn_f q, sn_f (fun q2 => q (h.mpr q2))]
theorem seen_add {M : xMac} {hs F : List (List Nat)} {c : Nat → Nat} (hn : hs.Nodup) (hc : ∀ a b, a < hs.length → b < hs.length → (c a = c b ↔ wAl M (hs.getD a []) (hs.getD b []))) {q : List Nat} {j : Nat} (hj : hs[j]? = some q) (hF : ∀ f ∈ F, f ∈ hs) : (seen hs F c (c j) → addU M F q = F) ∧ (¬ seen hs F c (c j) → addU M F q = F ++ [q]) := by
  obtain ⟨hjl, -⟩ := List.getElem?_eq_some_iff.mp hj
  constructor
  · rintro ⟨f, hf, k, hk, e⟩
    obtain ⟨hkl, -⟩ := List.getElem?_eq_some_iff.mp hk
    unfold addU
    rw [if_pos]
    refine List.any_eq_true.mpr ⟨f, hf, wA_iff.mpr ?_⟩
    have := (hc k j hkl hjl).mp e
    rw [getD_at hk, getD_at hj] at this
    exact this
  · intro hno
    unfold addU
    rw [if_neg]
    intro h
    obtain ⟨f, hf, ha⟩ := List.any_eq_true.mp h
    obtain ⟨k, hkl, hk⟩ := List.getElem_of_mem (hF f hf)
    have hk' : hs[k]? = some f := by rw [List.getElem?_eq_getElem hkl, hk]
    refine hno ⟨f, hf, k, hk', (hc k j hkl hjl).mpr ?_⟩
    rw [getD_at hk', getD_at hj]
    exact wA_iff.mp ha
theorem c6_addUnlike {M : xMac} (hM : mOk M) (hwh : mWhole M) {hs F cs : List (List Nat)} (hw : pWd I J 57 hs) (hg : ∀ a ∈ hs, wGood M a) (hne : hs ≠ []) (h8 : I 57 8 = nI (mK M)) (hf : pFo I M 57 hs hs.length) (hsg : ∃ ks, kT I J 62 200 512 ks) {cd : Nat} (h10 : I 57 10 = nI cd) (hcd : cd ≤ 200) (hk : cd = hs.length → pKd I M 57 hs) (hFw : cFw I F hs) (hLk : cLk I hs cs) (hcl : cs.length ≤ 256) : xCon G M_X6_addUnlike [.ref (G.1 56)] I J (xpi fun v I' J' => ((v = 1 ∧ cFw I' (cs.foldl (addU M) F) hs) ∨ (v = 0 ∧ 20 < (cs.foldl (addU M) F).length)) ∧ pKd I' M 57 hs ∧ I' 57 10 = nI hs.length ∧ (∃ ks, kT I' J' 62 200 512 ks) ∧ cfx [56, 57, 62, 63, 64, 65, 68, 69, 70, 74, 76] I J I' J' ∧ (∀ j, j ≠ 6 → I' 56 j = I 56 j) ∧ ∀ j, j ≠ 10 → j ≠ 11 → j ≠ 12 → I' 57 j = I 57 j) := by
  obtain ⟨hl, -⟩ := hw.len
  have hnd := hw.nodup
  refine x_ent (by decide) (Nat.le_of_ble_eq_true rfl) rfl ?_
  show xT _ _ _ 0 [_, _, _] _ _ _
  refine xr_aload0 dX6_addUnlike_0 rfl ?_
  refine xr_getR dX6_addUnlike_1 fk_6_12 lay_56 rfl ?_
  refine xr_cVv [] dX6_addUnlike_4 (xcv_of cf_X4_classify ml_6_65 (by decide)) rfl lay_57 rfl rfl rfl (Nat.le_of_ble_eq_true rfl) (c4_classify hM hwh isPl_57 hw hg hne h8 hf.fl hsg h10 hcd hk) (fun I1 J1 hc1 => ?_)
  obtain ⟨kd1, k10, sg1, f1, o1⟩ := hc1
  refine xr_aload0 dX6_addUnlike_7 rfl ?_
  refine xr_getR dX6_addUnlike_8 fk_6_35 lay_56 rfl ?_
  refine xr_ic0 dX6_addUnlike_11 ?_
  refine xr_cSv [_, _] dX6_addUnlike_12 (xcs_of cf_J7_fill_53178 ml_6_146 (by decide)) rfl rfl (Nat.le_of_ble_eq_true rfl) (cJ_fill lay_76 (by decide) 0) (fun I2 J2 hc2 => ?_)
  obtain ⟨z2, e2, rfl⟩ := hc2
  have f2 : cfx [56, 57, 62, 63, 64, 65, 68, 69, 70, 74, 76] I J I2 J1 := (f1.mono (by decide)).tr (fun a ha => ⟨e2 a (fun q => ha (by rw [q]; simp)), rfl⟩)
  obtain ⟨c, hc1, hc2⟩ := kd1.al hf.fl.clo
  have hFm : ∀ {F : List (List Nat)} {I' : xI}, cFw I' F hs → ∀ f ∈ F, f ∈ hs := fun h f hf => by
    obtain ⟨k, hk, rfl⟩ := List.getElem_of_mem hf
    obtain ⟨j, -, h2⟩ := h.2.2 k hk
    exact List.mem_of_getElem? h2
  -- what stands: the kinds, and cells that do not change any more
  have base : ∀ {I3 : xI}, (∀ a, a ≠ 56 → a ≠ 74 → a ≠ 76 → I3 a = I2 a) → pKd I3 M 57 hs ∧ I3 57 10 = nI hs.length ∧ (∃ ks, kT I3 J1 62 200 512 ks) ∧ (∀ j, j ≠ 10 → j ≠ 11 → j ≠ 12 → I3 57 j = I 57 j) ∧ (∀ k, k < hs.length → I3 68 k = nI (c k)) ∧ I3 75 = I 75 := fun {I3} e3 => by
    have ea : ∀ a, a ≠ 56 → a ≠ 74 → a ≠ 76 → I3 a = I1 a := fun a h1 h2 h3 => by rw [e3 a h1 h2 h3, e2 a h3]
    obtain ⟨ks, hks⟩ := sg1
    refine ⟨kd1.cg (ea (57 + 11) (by decide) (by decide) (by decide)) (ea (57 + 13) (by decide) (by decide) (by decide)) (by rw [ea 57 (by decide) (by decide) (by decide)]) (by rw [ea 57 (by decide) (by decide) (by decide)]), by rw [ea 57 (by decide) (by decide) (by decide)]; exact k10, ⟨ks, hks.cg (fun a h1 h2 => ⟨ea a (by omega) (by omega) (by omega), rfl⟩)⟩, fun j h1 h2 h3 => by rw [ea 57 (by decide) (by decide) (by decide)]; exact o1 j h1 h2 h3, fun k hk => by rw [ea 68 (by decide) (by decide) (by decide)]; exact (hc1 k hk).1, ?_⟩
    rw [ea 75 (by decide) (by decide) (by decide)]; exact (f1 75 (by decide)).1
  have e56 : I2 56 = I 56 := by rw [e2 56 (by decide)]; exact (f1 56 (by decide)).1
  have e74 : I2 74 = I 74 := by rw [e2 74 (by decide)]; exact (f1 74 (by decide)).1
  have hF20 := hFw.2.1
  have L2 : ∀ i, i ≤ cs.length → ∀ I3 (z2 : Option Value), (∀ a, a ≠ 56 → a ≠ 74 → a ≠ 76 → I3 a = I2 a) → (∀ j, j ≠ 6 → I3 56 j = I 56 j) → cfx [56, 57, 62, 63, 64, 65, 68, 69, 70, 74, 76] I J I3 J1 → cFw I3 ((cs.take i).foldl (addU M) F) hs → (∀ κ, κ < 200 → I3 76 κ = sn (seen hs ((cs.take i).foldl (addU M) F) c) κ) → xT G M_X6_addUnlike (xMQ G (xpi fun v I' J' => ((v = 1 ∧ cFw I' (cs.foldl (addU M) F) hs) ∨ (v = 0 ∧ 20 < (cs.foldl (addU M) F).length)) ∧ pKd I' M 57 hs ∧ I' 57 10 = nI hs.length ∧ (∃ ks, kT I' J' 62 200 512 ks) ∧ cfx [56, 57, 62, 63, 64, 65, 68, 69, 70, 74, 76] I J I' J' ∧ (∀ j, j ≠ 6 → I' 56 j = I 56 j) ∧ ∀ j, j ≠ 10 → j ≠ 11 → j ≠ 12 → I' 57 j = I 57 j)) 53 [some (.ref (G.1 56)), some (.int (nI i)), z2] [] I3 J1 := by
    refine x_for (fun i hi IH I3 z2 e3 p3 f3 w3 d3 => ?_)
    obtain ⟨b1, b2', b3, b4, b5, b6⟩ := base e3
    have v7 : I3 56 7 = nI cs.length := by rw [p3 7 (by decide)]; exact hLk.1
    refine xr_iload1 dX6_addUnlike_53 rfl ?_
    refine xr_aload0 dX6_addUnlike_54 rfl ?_
    refine xr_getIv dX6_addUnlike_55 fk_6_42 lay_56 rfl v7 ?_
    refine xr_icmp_ge 131 dX6_addUnlike_58 (by decide) (fun hc => ?_) (fun hc => ?_)
    · have : i = cs.length := by have := nle hc; omega
      subst this
      rw [List.take_length] at w3
      refine xr_ic1 dX6_addUnlike_131 ?_
      refine xr_zret dX6_addUnlike_132 rfl rfl (by simp) ⟨Or.inl ⟨rfl, w3⟩, b1, b2', b3, f3, p3, b4⟩
    have hil := nlt hc
    have IH := IH hil
    obtain ⟨j, hj1, hj2⟩ := hLk.2 i hil
    obtain ⟨hjl, -⟩ := List.getElem?_eq_some_iff.mp hj2
    have hcj := (hc1 j hjl).2
    have v75 : I3 75 i = nI j := by rw [b6]; exact hj1
    have v68 := b5 j hjl
    have v76 := d3 (c j) (by omega)
    have hstep : (cs.take (i + 1)).foldl (addU M) F = addU M ((cs.take i).foldl (addU M) F) cs[i] := by rw [List.take_succ_eq_append_getElem hil, List.foldl_append]; rfl
    obtain ⟨hs1, hs2⟩ := seen_add (c := c) hnd hc2 hj2 (hFm w3)
    rw [hstep] at IH
    have hF3 := w3.2.1
    refine xr_aload0 dX6_addUnlike_61 rfl ?_
    refine xr_getR dX6_addUnlike_62 fk_6_12 lay_56 rfl ?_
    refine xr_getR dX6_addUnlike_65 fk_6_152 lay_57 rfl ?_
    refine xr_aload0 dX6_addUnlike_68 rfl ?_
    refine xr_getR dX6_addUnlike_69 fk_6_32 lay_56 rfl ?_
    refine xr_iload1 dX6_addUnlike_72 rfl ?_
    refine xr_ialdv i dX6_addUnlike_73 lay_75 rfl (by omega) (by decide) v75 ?_
    refine xr_ialdv j dX6_addUnlike_74 lay_68 rfl (by omega) (by decide) v68 ?_
    show xT _ _ _ 75 _ _ _ _
    refine xr_istore2 dX6_addUnlike_75 (Nat.le_of_ble_eq_true rfl) ?_
    show xT _ _ _ 76 [_, _, _] _ _ _
    refine xr_aload0 dX6_addUnlike_76 rfl ?_
    refine xr_getR dX6_addUnlike_77 fk_6_35 lay_56 rfl ?_
    refine xr_iload2 dX6_addUnlike_80 rfl ?_
    refine xr_ialdv (c j) dX6_addUnlike_81 lay_76 rfl (by omega) (by decide) v76 ?_
    by_cases hsn : seen hs ((cs.take i).foldl (addU M) F) c (c j)
    · rw [sn_t hsn]
      rw [hs1 hsn] at IH
      refine xr_if_ne 125 dX6_addUnlike_82 (by decide) (fun hz => ?_) (fun hz => ?_)
      rotate_left
      · exact absurd hz (by decide)
      refine xr_iinc dX6_addUnlike_125 rfl ii_1 (Nat.le_of_ble_eq_true rfl) ?_
      show xT _ _ _ 128 [_, _, _] _ _ _
      refine xr_goto 53 dX6_addUnlike_128 (by decide) ?_
      rw [k_1, nI_add]
      exact IH I3 _ e3 p3 f3 w3 d3
    rw [sn_f hsn]
    rw [hs2 hsn] at IH
    refine xr_if_ne 125 dX6_addUnlike_82 (by decide) (fun hz => ?_) (fun hz => ?_)
    · exact absurd rfl hz
    refine xr_aload0 dX6_addUnlike_85 rfl ?_
    refine xr_getIv dX6_addUnlike_86 fk_6_38 lay_56 rfl w3.1 ?_
    refine xr_bip bi_20 dX6_addUnlike_89 ?_
    refine xr_icmp_lt 96 dX6_addUnlike_91 (by decide) (fun hlt => ?_) (fun hlt => ?_)
    rotate_left
    · have hge := nnlt (b := 20) hlt
      refine xr_ic0 dX6_addUnlike_94 ?_
      refine xr_zret dX6_addUnlike_95 rfl rfl (by simp) ⟨Or.inr ⟨rfl, ?_⟩, b1, b2', b3, f3, p3, b4⟩
      have e1 : cs = cs.take (i + 1) ++ cs.drop (i + 1) := (List.take_append_drop _ _).symm
      rw [e1, List.foldl_append, hstep, hs2 hsn]
      obtain ⟨e, he⟩ := addU_fold M (cs.drop (i + 1)) ((cs.take i).foldl (addU M) F ++ [cs[i]])
      rw [he, List.length_append, List.length_append, List.length_singleton]
      omega
    have hlt := nltl (b := 20) hlt
    generalize hFi : (cs.take i).foldl (addU M) F = Fi at *
    refine xr_aload0 dX6_addUnlike_96 rfl ?_
    refine xr_getR dX6_addUnlike_97 fk_6_35 lay_56 rfl ?_
    refine xr_iload2 dX6_addUnlike_100 rfl ?_
    refine xr_ic1 dX6_addUnlike_101 ?_
    refine xr_iast (c j) dX6_addUnlike_102 lay_76 rfl (by omega) (by decide) ?_
    generalize hI4 : va_up I3 76 (upd (I3 76) (c j) 1) = I4
    have w4 : I4 56 6 = nI Fi.length := by rw [← hI4, va_up_ne _ _ (by decide)]; exact w3.1
    have v75' : I4 75 i = nI j := by rw [← hI4, va_up_ne _ _ (by decide)]; exact v75
    refine xr_aload0 dX6_addUnlike_103 rfl ?_
    refine xr_getR dX6_addUnlike_104 fk_6_28 lay_56 rfl ?_
    refine xr_aload0 dX6_addUnlike_107 rfl ?_
    refine xr_dup dX6_addUnlike_108 rfl ?_
    refine xr_getIv dX6_addUnlike_109 fk_6_38 lay_56 rfl w4 ?_
    refine xr_dup_x1 dX6_addUnlike_112 rfl rfl ?_
    refine xr_ic1 dX6_addUnlike_113 ?_
    refine xr_iadd dX6_addUnlike_114 ?_
    show xT _ _ _ 115 _ _ _ _
    refine xr_putI dX6_addUnlike_115 fp_6_38 lay_56 rfl ?_
    rw [k_1, nI_add]
    generalize hI5 : va_up I4 56 (upd (I4 56) 6 (nI (Fi.length + 1))) = I5
    have v75'' : I5 75 i = nI j := by rw [← hI5, va_up_ne _ _ (by decide)]; exact v75'
    refine xr_aload0 dX6_addUnlike_118 rfl ?_
    refine xr_getR dX6_addUnlike_119 fk_6_32 lay_56 rfl ?_
    refine xr_iload1 dX6_addUnlike_122 rfl ?_
    refine xr_ialdv i dX6_addUnlike_123 lay_75 rfl (by omega) (by decide) v75'' ?_
    refine xr_iast (Fi.length) dX6_addUnlike_124 lay_74 rfl (by omega) (by decide) ?_
    generalize hI6 : va_up I5 74 (upd (I5 74) Fi.length (nI j)) = I6
    refine xr_iinc dX6_addUnlike_125 rfl ii_1 (Nat.le_of_ble_eq_true rfl) ?_
    show xT _ _ _ 128 [_, _, _] _ _ _
    refine xr_goto 53 dX6_addUnlike_128 (by decide) ?_
    rw [k_1, nI_add]
    have q76 : I6 76 = upd (I3 76) (c j) 1 := by rw [← hI6, va_up_ne _ _ (by decide), ← hI5, va_up_ne _ _ (by decide), ← hI4, up_same]
    have q74 : I6 74 = upd (I3 74) Fi.length (nI j) := by rw [← hI6, up_same, ← hI5, va_up_ne _ _ (by decide), ← hI4, va_up_ne _ _ (by decide)]
    have q56 : ∀ j, j ≠ 6 → I6 56 j = I3 56 j := fun j hj => by rw [← hI6, va_up_ne _ _ (by decide), ← hI5, up_same, upd_ne _ _ hj, ← hI4, va_up_ne _ _ (by decide)]
    refine IH I6 _ (fun a h1 h2 h3 => by rw [← hI6, va_up_ne _ _ h2, ← hI5, va_up_ne _ _ h1, ← hI4, va_up_ne _ _ h3]; exact e3 a h1 h2 h3) (fun j hj => by rw [q56 j hj]; exact p3 j hj) (by rw [← hI6, ← hI5, ← hI4]; exact ((f3.up _ (by simp)).up _ (by simp)).up _ (by simp)) ⟨?_, by simp; omega, fun k hk => ?_⟩ (fun κ hκ => ?_)
    · rw [← hI6, va_up_ne _ _ (by decide), ← hI5, up_same, upd_same]; simp
    · rw [List.length_append, List.length_singleton] at hk
      rw [q74]
      rcases Nat.lt_or_ge k Fi.length with g | g
      · rw [upd_ne _ _ (by omega), List.getElem_append_left g]; exact w3.2.2 k g
      · have : k = Fi.length := by omega
        subst this
        rw [upd_same]
        exact ⟨j, rfl, by simpa using hj2⟩
    · rw [q76]
      by_cases e : κ = c j
      · rw [e, upd_same, sn_t ⟨cs[i], List.mem_append_right _ (List.mem_singleton.mpr rfl), j, hj2, rfl⟩]
      · rw [upd_ne _ _ e, d3 κ hκ]
        refine sn_eq ⟨fun ⟨f, hf, r⟩ => ⟨f, List.mem_append_left _ hf, r⟩, fun ⟨f, hf, k, r1, r2⟩ => ?_⟩
        rcases List.mem_append.mp hf with q | q
        · exact ⟨f, q, k, r1, r2⟩
        · rw [List.mem_singleton.mp q] at r1
          have := nd_at hnd r1 hj2
          rw [this] at r2
          exact absurd r2.symm e
  have L1 : ∀ i, i ≤ F.length → ∀ I3 (z2 : Option Value), (∀ a, a ≠ 76 → I3 a = I2 a) → cfx [56, 57, 62, 63, 64, 65, 68, 69, 70, 74, 76] I J I3 J1 → (∀ κ, κ < 200 → I3 76 κ = sn (seen hs (F.take i) c) κ) → xT G M_X6_addUnlike (xMQ G (xpi fun v I' J' => ((v = 1 ∧ cFw I' (cs.foldl (addU M) F) hs) ∨ (v = 0 ∧ 20 < (cs.foldl (addU M) F).length)) ∧ pKd I' M 57 hs ∧ I' 57 10 = nI hs.length ∧ (∃ ks, kT I' J' 62 200 512 ks) ∧ cfx [56, 57, 62, 63, 64, 65, 68, 69, 70, 74, 76] I J I' J' ∧ (∀ j, j ≠ 6 → I' 56 j = I 56 j) ∧ ∀ j, j ≠ 10 → j ≠ 11 → j ≠ 12 → I' 57 j = I 57 j)) 17 [some (.ref (G.1 56)), some (.int (nI i)), z2] [] I3 J1 := by
    refine x_for (fun i hi IH I3 z2 e3 f3 d3 => ?_)
    obtain ⟨b1, b2', b3, b4, b5, b6⟩ := base (I3 := I3) (fun a _ _ h => e3 a h)
    have v6 : I3 56 6 = nI F.length := by rw [e3 56 (by decide), e56]; exact hFw.1
    refine xr_iload1 dX6_addUnlike_17 rfl ?_
    refine xr_aload0 dX6_addUnlike_18 rfl ?_
    refine xr_getIv dX6_addUnlike_19 fk_6_38 lay_56 rfl v6 ?_
    refine xr_icmp_ge 51 dX6_addUnlike_22 (by decide) (fun hc => ?_) (fun hc => ?_)
    · have : i = F.length := by have := nle hc; omega
      subst this
      rw [List.take_length] at d3
      refine xr_ic0 dX6_addUnlike_51 ?_
      refine xr_istore1 dX6_addUnlike_52 (Nat.le_of_ble_eq_true rfl) ?_
      show xT _ _ _ 53 [_, _, _] _ _ _
      exact L2 0 (Nat.zero_le _) I3 _ (fun a _ _ h => e3 a h) (fun j _ => by rw [e3 56 (by decide), e56]) f3 ⟨v6, hF20, fun k hk => by rw [e3 74 (by decide), e74]; exact hFw.2.2 k hk⟩ d3
    have hil := nlt hc
    have IH := IH hil
    obtain ⟨j, hj1, hj2⟩ := hFw.2.2 i hil
    obtain ⟨hjl, -⟩ := List.getElem?_eq_some_iff.mp hj2
    have hcj := (hc1 j hjl).2
    have v74 : I3 74 i = nI j := by rw [e3 74 (by decide), e74]; exact hj1
    have v68 := b5 j hjl
    refine xr_aload0 dX6_addUnlike_25 rfl ?_
    refine xr_getR dX6_addUnlike_26 fk_6_35 lay_56 rfl ?_
    refine xr_aload0 dX6_addUnlike_29 rfl ?_
    refine xr_getR dX6_addUnlike_30 fk_6_12 lay_56 rfl ?_
    refine xr_getR dX6_addUnlike_33 fk_6_152 lay_57 rfl ?_
    refine xr_aload0 dX6_addUnlike_36 rfl ?_
    refine xr_getR dX6_addUnlike_37 fk_6_28 lay_56 rfl ?_
    refine xr_iload1 dX6_addUnlike_40 rfl ?_
    show xT _ _ _ 41 _ _ _ _
    refine xr_ialdv i dX6_addUnlike_41 lay_74 rfl (by omega) (by decide) v74 ?_
    refine xr_ialdv j dX6_addUnlike_42 lay_68 rfl (by omega) (by decide) v68 ?_
    refine xr_ic1 dX6_addUnlike_43 ?_
    refine xr_iast (c j) dX6_addUnlike_44 lay_76 rfl (by omega) (by decide) ?_
    refine xr_iinc dX6_addUnlike_45 rfl ii_1 (Nat.le_of_ble_eq_true rfl) ?_
    show xT _ _ _ 48 [_, _, _] _ _ _
    refine xr_goto 17 dX6_addUnlike_48 (by decide) ?_
    rw [k_1, nI_add]
    refine IH _ _ (fun a h => by rw [va_up_ne _ _ h]; exact e3 a h) (f3.up _ (by simp)) (fun κ hκ => ?_)
    rw [up_same, List.take_succ_eq_append_getElem hil]
    by_cases e : κ = c j
    · rw [e, upd_same, sn_t ⟨F[i], List.mem_append_right _ (List.mem_singleton.mpr rfl), j, hj2, rfl⟩]; rfl
    · rw [upd_ne _ _ e, d3 κ hκ]
      refine sn_eq ⟨fun ⟨f, hf, r⟩ => ⟨f, List.mem_append_left _ hf, r⟩, fun ⟨f, hf, k, r1, r2⟩ => ?_⟩
      rcases List.mem_append.mp hf with q | q
      · exact ⟨f, q, k, r1, r2⟩
      · rw [List.mem_singleton.mp q] at r1
        have := nd_at hnd r1 hj2
        rw [this] at r2
        exact absurd r2.symm e
  refine xr_ic0 dX6_addUnlike_15 ?_
  refine xr_istore1 dX6_addUnlike_16 (Nat.le_of_ble_eq_true rfl) ?_
  show xT _ _ _ 17 [_, _, _] _ _ _
  refine L1 0 (Nat.zero_le _) I2 _ (fun _ _ => rfl) f2 (fun κ hκ => ?_)
  rw [z2 κ hκ, sn_f]
  rintro ⟨f, hf, -⟩
  rw [List.take_zero] at hf
  cases hf
end C39
