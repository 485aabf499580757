section C01
variable {G : xG} {I : xI} {J : xJ}
-- the class: what changes, and words
def cfx (A : List Nat) (I : xI) (J : xJ) (I' : xI) (J' : xJ) : Prop := ∀ a, a ∉ A → I' a = I a ∧ J' a = J a
theorem cfx.rf {A : List Nat} {I : xI} {J : xJ} : cfx A I J I J := fun _ _ => ⟨rfl, rfl⟩
theorem cfx.tr {A : List Nat} {I I1 I2 : xI} {J J1 J2 : xJ} (h1 : cfx A I J I1 J1) (h2 : cfx A I1 J1 I2 J2) : cfx A I J I2 J2 := fun a ha => ⟨(h2 a ha).1.trans (h1 a ha).1, (h2 a ha).2.trans (h1 a ha).2⟩
theorem cfx.mono {A B : List Nat} {I I' : xI} {J J' : xJ} (h : cfx A I J I' J') (hA : ∀ a ∈ A, a ∈ B) : cfx B I J I' J' := fun a ha => h a (fun q => ha (hA a q))
theorem cfx.up {A : List Nat} {I I1 : xI} {J J1 : xJ} (h : cfx A I J I1 J1) {k : Nat} (f : Nat → Int32) (hk : k ∈ A) : cfx A I J (va_up I1 k f) J1 := fun a ha => ⟨(va_up_ne _ _ (fun q => ha (by rw [q]; exact hk))).trans (h a ha).1, (h a ha).2⟩
theorem cfx.upJ {A : List Nat} {I I1 : xI} {J J1 : xJ} (h : cfx A I J I1 J1) {k : Nat} (f : Nat → Int64) (hk : k ∈ A) : cfx A I J I1 (va_up J1 k f) := fun a ha => ⟨(h a ha).1, (va_up_ne _ _ (fun q => ha (by rw [q]; exact hk))).trans (h a ha).2⟩
def cfr (I : xI) (J : xJ) (I' : xI) (J' : xJ) : Prop := ∀ a, 77 ≤ a → I' a = I a ∧ J' a = J a
theorem cfx.fr {A : List Nat} {I I' : xI} {J J' : xJ} (h : cfx A I J I' J') (hA : ∀ a ∈ A, a < 77) : cfr I J I' J' := fun a ha => h a (fun q => by have := hA a q; omega)
theorem cfr.rf {I : xI} {J : xJ} : cfr I J I J := fun _ _ => ⟨rfl, rfl⟩
theorem cfr.tr {I I1 I2 : xI} {J J1 J2 : xJ} (h1 : cfr I J I1 J1) (h2 : cfr I1 J1 I2 J2) : cfr I J I2 J2 := fun a ha => ⟨(h2 a ha).1.trans (h1 a ha).1, (h2 a ha).2.trans (h1 a ha).2⟩
def isW (w : Nat) : Prop := lay w = .inl (7, [.inr true, .inr false])
def cWd (I : xI) (J : xJ) (w : Nat) (ws : List Nat) : Prop := J w 0 = lN (p4 ws) ∧ I w 1 = nI ws.length
def w16 (ws : List Nat) : Prop := ws.length ≤ 16 ∧ d16 ws
theorem cWd.cg {I I' : xI} {J J' : xJ} {w : Nat} {ws : List Nat} (h : cWd I J w ws) (h1 : I' w = I w) (h2 : J' w = J w) : cWd I' J' w ws := by
  unfold cWd; rw [h1, h2]; exact h
theorem cfx.wd {A : List Nat} {I I' : xI} {J J' : xJ} {w : Nat} {ws : List Nat} (f : cfx A I J I' J') (h : cWd I J w ws) (hw : w ∉ A) : cWd I' J' w ws := h.cg (f w hw).1 (f w hw).2
theorem w16.nil : w16 [] := ⟨by decide, fun x hx => by cases hx⟩
theorem wpush_16 {ws : List Nat} {m : Nat} (h : d16 ws) (hm : m < 16) : d16 (wpush ws m) := fun x hx => by
  unfold wpush at hx
  split at hx
  · exact h x (List.dropLast_subset _ hx)
  · rcases List.mem_append.mp hx with q | q
    · exact h x q
    · rw [List.mem_singleton.mp q]; exact hm
theorem ixor_1 : ∀ m : Fin 16, nI m.1 ^^^ 1 = nI (opp m.1) := by decide
theorem opp_lt16 {m : Nat} (h : m < 16) : opp m < 16 := by unfold opp; split <;> omega
theorem c7_empty {w : Nat} (hw : isW w) : xCon G M_X7_empty [.ref (G.1 w)] I J (xpv fun I' J' => cWd I' J' w [] ∧ cfx [w] I J I' J') := by
  refine x_ent (by decide) (Nat.le_of_ble_eq_true rfl) rfl ?_
  show xT _ _ _ 0 [_] _ _ _
  refine xr_aload0 dX7_empty_0 rfl ?_
  refine xr_lc0 dX7_empty_1 ?_
  refine xr_putJ dX7_empty_2 fp_7_9 hw rfl ?_
  refine xr_aload0 dX7_empty_5 rfl ?_
  refine xr_ic0 dX7_empty_6 ?_
  refine xr_putI dX7_empty_7 fp_7_15 hw rfl ?_
  refine xr_vret dX7_empty_10 rfl rfl ⟨⟨by rw [up_same, updL_same]; rfl, by rw [up_same, upd_same]; rfl⟩, (cfx.rf.upJ _ (by simp)).up _ (by simp)⟩
theorem c7_copy {w v : Nat} (hw : isW w) (hv : isW v) {ws : List Nat} (hs : cWd I J v ws) : xCon G M_X7_copy [.ref (G.1 w), .ref (G.1 v)] I J (xpv fun I' J' => cWd I' J' w ws ∧ cfx [w] I J I' J') := by
  refine x_ent (by decide) (Nat.le_of_ble_eq_true rfl) rfl ?_
  show xT _ _ _ 0 [_, _] _ _ _
  refine xr_aload0 dX7_copy_0 rfl ?_
  refine xr_aload1 dX7_copy_1 rfl ?_
  refine xr_getJv dX7_copy_2 fk_7_9 hv rfl hs.1 ?_
  refine xr_putJ dX7_copy_5 fp_7_9 hw rfl ?_
  refine xr_aload0 dX7_copy_8 rfl ?_
  refine xr_aload1 dX7_copy_9 rfl ?_
  refine xr_getIv dX7_copy_10 fk_7_15 hv rfl hs.2 ?_
  refine xr_putI dX7_copy_13 fp_7_15 hw rfl ?_
  refine xr_vret dX7_copy_16 rfl rfl ⟨⟨by rw [up_same, updL_same], by rw [up_same, upd_same]⟩, (cfx.rf.upJ _ (by simp)).up _ (by simp)⟩
theorem c7_mark {w : Nat} (hw : isW w) {ws : List Nat} (hs : cWd I J w ws) (h16 : w16 ws) {i : Nat} (hi : i < ws.length) : xCon G M_X7_mark [.ref (G.1 w), .int (nI i)] I J (xpi fun v I' J' => v = nI ws[i] ∧ I = I' ∧ J = J') := by
  refine x_ent (by decide) (Nat.le_of_ble_eq_true rfl) rfl ?_
  show xT _ _ _ 0 [_, _] _ _ _
  refine xr_aload0 dX7_mark_0 rfl ?_
  refine xr_getJv dX7_mark_1 fk_7_9 hw rfl hs.1 ?_
  refine xr_ic4 dX7_mark_4 ?_
  refine xr_iload1 dX7_mark_5 rfl ?_
  refine xr_imul dX7_mark_6 ?_
  refine xr_lushr dX7_mark_7 ?_
  refine xr_l2i dX7_mark_8 ?_
  refine xr_bip bi_15 dX7_mark_9 ?_
  show xT _ _ _ 11 _ _ _ _
  refine xr_iand dX7_mark_11 ?_
  refine xr_iret dX7_mark_12 rfl rfl ⟨?_, rfl, rfl⟩
  rw [i32_and, k_4, pk_mul, key_get h16.2 h16.1 hi]
theorem wlast {ws : List Nat} (h : 0 < ws.length) : ws.getLast? = some (ws[ws.length - 1]'(by omega)) := by
  rw [List.getLast?_eq_getElem?, List.getElem?_eq_getElem]
theorem lmask {ws : List Nat} (h16 : w16 ws) (h : 0 < ws.length) : lN (p4 ws) &&& ((1 : Int64) <<< ((nI (4 * (ws.length - 1))).toInt64 &&& 63) - 1) = lN (p4 ws.dropLast) := by
  have hl := h16.1
  have h1 : (1 : Int64) <<< ((nI (4 * (ws.length - 1))).toInt64 &&& 63) = lN (2 ^ (4 * (ws.length - 1))) := by
    apply uN_inj
    have : 2 ^ (4 * (ws.length - 1)) < 2 ^ 64 := Nat.pow_lt_pow_right (by decide) (by omega)
    rw [uN_shl _ (by omega), uN_lN this, show uN 1 = 1 from rfl, Nat.one_mul, Nat.mod_eq_of_lt this]
  have h2 : 0 < 2 ^ (4 * (ws.length - 1)) := Nat.pow_pos (by decide)
  have h3 : 2 ^ (4 * (ws.length - 1)) < 2 ^ 63 := Nat.pow_lt_pow_right (by decide) (by omega)
  rw [h1, show (1 : Int64) = lN 1 from rfl, lN_sub (by omega)]
  have hd : d16 ws.dropLast := fun x hx => h16.2 x (List.dropLast_subset _ hx)
  apply uN_inj
  rw [uN_and, uN_key h16.2 h16.1, uN_lN (by omega), uN_key hd (by simp; omega), Nat.and_two_pow_sub_one_eq_mod, p16, p4_mod h16.2, List.dropLast_eq_take]
theorem c7_push {w : Nat} (hw : isW w) {ws : List Nat} (hs : cWd I J w ws) (h16 : w16 ws) {m : Nat} (hm : m < 16) : xCon G M_X7_push [.ref (G.1 w), .int (nI m)] I J (xpi fun v I' J' => (16 < (wpush ws m).length ∧ v = 0 ∧ I = I' ∧ J = J') ∨ ((wpush ws m).length ≤ 16 ∧ v = 1 ∧ cWd I' J' w (wpush ws m) ∧ cfx [w] I J I' J')) := by
  have hl := h16.1
  have K61 : ws.getLast? ≠ some (opp m) → xT G M_X7_push (xMQ G (xpi fun v I' J' => (16 < (wpush ws m).length ∧ v = 0 ∧ I = I' ∧ J = J') ∨ ((wpush ws m).length ≤ 16 ∧ v = 1 ∧ cWd I' J' w (wpush ws m) ∧ cfx [w] I J I' J'))) 61 [some (.ref (G.1 w)), some (.int (nI m))] [] I J := by
    intro hne
    have e : wpush ws m = ws ++ [m] := by unfold wpush; rw [if_neg hne]
    rw [e]
    refine xr_aload0 dX7_push_61 rfl ?_
    refine xr_getIv dX7_push_62 fk_7_15 hw rfl hs.2 ?_
    refine xr_bip bi_16 dX7_push_65 ?_
    refine xr_icmp_lt 72 dX7_push_67 (by decide) (fun hlt => ?_) (fun hlt => ?_)
    rotate_left
    · have hge : 16 ≤ ws.length := nnlt (b := 16) hlt
      refine xr_ic0 dX7_push_70 ?_
      refine xr_zret dX7_push_71 rfl rfl (by simp) (Or.inl ⟨by simp; omega, rfl, rfl, rfl⟩)
    have hlt : ws.length < 16 := nltl (b := 16) hlt
    refine xr_aload0 dX7_push_72 rfl ?_
    refine xr_dup dX7_push_73 rfl ?_
    refine xr_getJv dX7_push_74 fk_7_9 hw rfl hs.1 ?_
    refine xr_iload1 dX7_push_77 rfl ?_
    refine xr_i2l dX7_push_78 ?_
    refine xr_ic4 dX7_push_79 ?_
    refine xr_aload0 dX7_push_80 rfl ?_
    refine xr_getIv dX7_push_81 fk_7_15 hw rfl hs.2 ?_
    show xT _ _ _ 84 _ _ _ _
    refine xr_imul dX7_push_84 ?_
    refine xr_lshl dX7_push_85 ?_
    refine xr_lor dX7_push_86 ?_
    rw [k_4, pk_mul, key_push h16.2 hlt hm]
    refine xr_putJ dX7_push_87 fp_7_9 hw rfl ?_
    refine xr_aload0 dX7_push_90 rfl ?_
    refine xr_dup dX7_push_91 rfl ?_
    refine xr_getIv dX7_push_92 fk_7_15 hw rfl hs.2 ?_
    refine xr_ic1 dX7_push_95 ?_
    refine xr_iadd dX7_push_96 ?_
    rw [k_1, nI_add]
    refine xr_putI dX7_push_97 fp_7_15 hw rfl ?_
    refine xr_ic1 dX7_push_100 ?_
    refine xr_zret dX7_push_101 rfl rfl (by simp) (Or.inr ⟨by simp; omega, rfl, ⟨?_, ?_⟩, (cfx.rf.upJ _ (by simp)).up _ (by simp)⟩)
    · rw [up_same, updL_same]
    · rw [up_same, upd_same]; simp
  refine x_ent (by decide) (Nat.le_of_ble_eq_true rfl) rfl ?_
  show xT _ _ _ 0 [_, _] _ _ _
  refine xr_aload0 dX7_push_0 rfl ?_
  refine xr_getIv dX7_push_1 fk_7_15 hw rfl hs.2 ?_
  refine xr_if_le 61 dX7_push_4 (by decide) (fun h0 => ?_) (fun h0 => ?_)
  · have h0 : ws.length = 0 := by have := (nI_leI (b := 0) (by omega) (by decide)).mp h0; omega
    refine K61 (fun q => ?_)
    rw [List.length_eq_zero_iff.mp h0] at q
    cases q
  have h0 : 0 < ws.length := by
    rcases Nat.eq_zero_or_pos ws.length with q | q
    · exact absurd (by rw [q]; decide) h0
    · exact q
  have hml := h16.2 _ (List.getElem_mem (show ws.length - 1 < ws.length by omega))
  refine xr_aload0 dX7_push_7 rfl ?_
  refine xr_getJv dX7_push_8 fk_7_9 hw rfl hs.1 ?_
  refine xr_ic4 dX7_push_11 ?_
  refine xr_aload0 dX7_push_12 rfl ?_
  refine xr_getIv dX7_push_13 fk_7_15 hw rfl hs.2 ?_
  refine xr_imul dX7_push_16 ?_
  refine xr_ic4 dX7_push_17 ?_
  refine xr_isub dX7_push_18 ?_
  show xT _ _ _ 19 _ _ _ _
  refine xr_lushr dX7_push_19 ?_
  refine xr_l2i dX7_push_20 ?_
  refine xr_bip bi_15 dX7_push_21 ?_
  refine xr_iand dX7_push_23 ?_
  refine xr_iload1 dX7_push_24 rfl ?_
  refine xr_ic1 dX7_push_25 ?_
  refine xr_ixor dX7_push_26 ?_
  rw [i32_and, k_4, pk_mul, pk_sub (by omega), show 4 * ws.length - 4 = 4 * (ws.length - 1) by omega, key_get h16.2 h16.1 (by omega), ixor_1 ⟨m, hm⟩]
  refine xr_icmp_ne 61 dX7_push_27 (by decide) (fun hne => ?_) (fun hne => ?_)
  · refine K61 (fun q => hne ?_)
    rw [wlast h0] at q
    rw [Option.some.inj q]
  have heq : ws[ws.length - 1] = opp m := (nI_eq (by omega) (by have := opp_lt16 hm; omega)).mp hne
  have e : wpush ws m = ws.dropLast := by unfold wpush; rw [wlast h0, heq, if_pos rfl]
  rw [e]
  refine xr_aload0 dX7_push_30 rfl ?_
  refine xr_dup dX7_push_31 rfl ?_
  refine xr_getIv dX7_push_32 fk_7_15 hw rfl hs.2 ?_
  refine xr_ic1 dX7_push_35 ?_
  refine xr_isub dX7_push_36 ?_
  rw [k_1, pk_sub (by omega)]
  refine xr_putI dX7_push_37 fp_7_15 hw rfl ?_
  generalize hI2 : va_up I w (upd (I w) 1 (nI (ws.length - 1))) = I2
  have hlen : I2 w 1 = nI (ws.length - 1) := by rw [← hI2, up_same, upd_same]
  refine xr_aload0 dX7_push_40 rfl ?_
  refine xr_dup dX7_push_41 rfl ?_
  refine xr_getJv dX7_push_42 fk_7_9 hw rfl hs.1 ?_
  refine xr_lc1 dX7_push_45 ?_
  refine xr_ic4 dX7_push_46 ?_
  refine xr_aload0 dX7_push_47 rfl ?_
  refine xr_getIv dX7_push_48 fk_7_15 hw rfl hlen ?_
  refine xr_imul dX7_push_51 ?_
  show xT _ _ _ 52 _ _ _ _
  refine xr_lshl dX7_push_52 ?_
  refine xr_lc1 dX7_push_53 ?_
  refine xr_lsub dX7_push_54 ?_
  refine xr_land dX7_push_55 ?_
  rw [k_4, pk_mul, lmask h16 h0]
  refine xr_putJ dX7_push_56 fp_7_9 hw rfl ?_
  refine xr_ic1 dX7_push_59 ?_
  refine xr_zret dX7_push_60 rfl rfl (by simp) (Or.inr ⟨by simp; omega, rfl, ⟨?_, ?_⟩, ?_⟩)
  · rw [up_same, updL_same]
  · rw [hlen]; simp
  · rw [← hI2]; exact (cfx.rf.up _ (by simp)).upJ _ (by simp)
end C01
