section M17
variable {G : xG} {I : xI} {J : xJ}
/-- the classes of n letters, as they are kept -/
def mCa (I : xI) (M : xMac) (hs : List (List Nat)) (n : Nat) : Prop := ∃ c, isCls M hs n (fun h => I 95 (201 * n + h)) c hs.length
theorem cls0 (M : xMac) (hs : List (List Nat)) (f : Nat → Int32) (m : Nat) (hm : m = hs.length) (hf : ∀ h, h < m → f h = 0) : isCls M hs 0 f (fun _ => 0) m := by
  subst hm
  refine ⟨fun h hh => ⟨hf h hh, ?_⟩, fun g h _ _ => ⟨fun _ => trivial, fun _ => rfl⟩⟩
  have := ncl_0 M hs
  unfold ncl at this
  rw [this, if_neg (by omega)]
  exact Nat.zero_lt_one
theorem c9_partAll {M : xMac} (h : mMach I M) {hs : List (List Nat)} (h21 : I 77 21 = nI hs.length) (hl : hs.length ≤ 200) (hmd : mHd I M hs hs.length) (hout : ∀ a ∈ hs, ∀ x, x < mK M → wout M a x < 4) : xCon G M_X9_partAll [.ref (G.1 77)] I J (xpi fun v I' J' => (∃ l, 14 ≤ l ∧ v = nI (ncl M hs (l + 1)) ∧ ncl M hs (l + 1) ≤ ncl M hs l ∧ mCl I' M hs (l + 1)) ∧ (∀ n, n ≤ 14 → mCa I' M hs n) ∧ mfx [93, 94, 95] [] I I' ∧ J = J') := by
  have L : ∀ k l I1 (b : Bool) (z4 z5 : Option Value), k = 300 * (15 - l) + (201 - ncl M hs l) → l ≤ 300 → l ≤ 15 + ncl M hs l → mfx [93, 94, 95] [] I I1 → mCl I1 M hs l → (∀ n, n ≤ 14 → n ≤ l → mCa I1 M hs n) → (b = false → ∃ l', l = l' + 1 ∧ 14 ≤ l' ∧ ncl M hs (l' + 1) ≤ ncl M hs l') → xT G M_X9_partAll (xMQ G (xpi fun v I' J' => (∃ l, 14 ≤ l ∧ v = nI (ncl M hs (l + 1)) ∧ ncl M hs (l + 1) ≤ ncl M hs l ∧ mCl I' M hs (l + 1)) ∧ (∀ n, n ≤ 14 → mCa I' M hs n) ∧ mfx [93, 94, 95] [] I I' ∧ J = J')) 47 [some (.ref (G.1 77)), some (.int (nI (ncl M hs l))), some (.int (b2 b)), some (.int (nI (l + 1))), z4, z5] [] I1 J := by
    intro k
    induction k using x_lt with
    | h k IH =>
    intro l I1 b z4 z5 hk hl3 hl4 f1 c1 a1 hb
    have hnl := ncl_le M hs l
    have hnl2 := ncl_le M hs (l + 1)
    have hmono := ncl_mono M hs l
    refine xr_iload2 dX9_partAll_47 rfl ?_
    refine xr_if_eq 128 dX9_partAll_48 (by decide) (fun hb0 => ?_) (fun hb0 => ?_)
    · have hb0 := b2_0.mp hb0
      obtain ⟨l', rfl, h14, hst⟩ := hb hb0
      refine xr_iload1 dX9_partAll_128 rfl ?_
      refine xr_iret dX9_partAll_129 rfl rfl ⟨⟨l', h14, rfl, hst, c1⟩, fun n hn => a1 n hn (by omega), f1, rfl⟩
    · have g21 : I1 77 21 = nI hs.length := (f1.2 21 (by decide)).trans h21
      have hmd1 : mHd I1 M hs hs.length := fun q hq hq2 y hy => by rw [f1.1 91 (by decide) (by decide), f1.1 92 (by decide) (by decide)]; exact hmd q hq hq2 y hy
      refine xr_aload0 dX9_partAll_51 rfl ?_
      refine xr_cVi [] dX9_partAll_52 (xcv_of cf_X9_partOnce ml_9_197 (by decide)) rfl lay_77 rfl rfl rfl (Nat.le_of_ble_eq_true rfl) (c9_partOnce (f1.mach h (by decide) (by decide)) g21 hl hmd1 c1 hout) (fun v I2 J2 hc2 => ?_)
      obtain ⟨rfl, c2, f2, rfl⟩ := hc2
      have f12 : mfx [93, 94, 95] [] I I2 := f1.tr (f2.mono (by simp) (fun a h => h))
      have a2 : ∀ n, n ≤ 14 → n ≤ l → mCa I2 M hs n := fun n h1 h2 => by
        obtain ⟨c, hc⟩ := a1 n h1 h2
        exact ⟨c, by rw [f2.1 95 (by decide) (by decide)]; exact hc⟩
      -- behind the answer whether more is to be done
      have J74 : ∀ b' : Bool, (b' = true → l < 14 ∨ ncl M hs l < ncl M hs (l + 1)) → (b' = false → 14 ≤ l ∧ ncl M hs (l + 1) ≤ ncl M hs l) → xT G M_X9_partAll (xMQ G (xpi fun v I' J' => (∃ l, 14 ≤ l ∧ v = nI (ncl M hs (l + 1)) ∧ ncl M hs (l + 1) ≤ ncl M hs l ∧ mCl I' M hs (l + 1)) ∧ (∀ n, n ≤ 14 → mCa I' M hs n) ∧ mfx [93, 94, 95] [] I I' ∧ J = J')) 74 [some (.ref (G.1 77)), some (.int (nI (ncl M hs l))), some (.int (b2 b)), some (.int (nI (l + 1))), some (.int (nI (ncl M hs (l + 1)))), z5] [.int (b2 b')] I2 J := by
        intro b' hbt hbf
        refine xr_istore2 dX9_partAll_74 (Nat.le_of_ble_eq_true rfl) ?_
        show xT _ _ _ 75 [_, _, _, _, _, _] _ _ _
        refine xr_iload dX9_partAll_75 rfl ?_
        refine xr_istore1 dX9_partAll_77 (Nat.le_of_ble_eq_true rfl) ?_
        show xT _ _ _ 78 [_, _, _, _, _, _] _ _ _
        refine xr_ic0 dX9_partAll_78 ?_
        refine xr_istore dX9_partAll_79 (Nat.le_of_ble_eq_true rfl) ?_
        show xT _ _ _ 81 [_, _, _, _, _, _] _ _ _
        -- the round is kept
        have L2 : ∀ h0, h0 ≤ hs.length → ∀ I3, mfx [93, 94, 95] [] I I3 → I3 93 = I2 93 → (∀ n, n ≤ 14 → n ≤ l → mCa I3 M hs n) → (l < 14 → ∀ j, j < h0 → I3 95 (201 * (l + 1) + j) = I2 93 j) → xT G M_X9_partAll (xMQ G (xpi fun v I' J' => (∃ l, 14 ≤ l ∧ v = nI (ncl M hs (l + 1)) ∧ ncl M hs (l + 1) ≤ ncl M hs l ∧ mCl I' M hs (l + 1)) ∧ (∀ n, n ≤ 14 → mCa I' M hs n) ∧ mfx [93, 94, 95] [] I I' ∧ J = J')) 81 [some (.ref (G.1 77)), some (.int (nI (ncl M hs (l + 1)))), some (.int (b2 b')), some (.int (nI (l + 1))), some (.int (nI (ncl M hs (l + 1)))), some (.int (nI h0))] [] I3 J := by
          refine x_for (fun h0 hh0 IH3 I3 f3 e3 a3 d3 => ?_)
          have g21 : I3 77 21 = nI hs.length := (f3.2 21 (by decide)).trans h21
          have out : (l < 14 → h0 = hs.length) → xT G M_X9_partAll (xMQ G (xpi fun v I' J' => (∃ l, 14 ≤ l ∧ v = nI (ncl M hs (l + 1)) ∧ ncl M hs (l + 1) ≤ ncl M hs l ∧ mCl I' M hs (l + 1)) ∧ (∀ n, n ≤ 14 → mCa I' M hs n) ∧ mfx [93, 94, 95] [] I I' ∧ J = J')) 122 [some (.ref (G.1 77)), some (.int (nI (ncl M hs (l + 1)))), some (.int (b2 b')), some (.int (nI (l + 1))), some (.int (nI (ncl M hs (l + 1)))), some (.int (nI h0))] [] I3 J := by
            intro hout2
            refine xr_iinc dX9_partAll_122 rfl ii_1 (Nat.le_of_ble_eq_true rfl) ?_
            show xT _ _ _ 125 [_, _, _, _, _, _] _ _ _
            refine xr_goto 47 dX9_partAll_125 (by decide) ?_
            rw [k_1, nI_add]
            have c3 : mCl I3 M hs (l + 1) := by
              obtain ⟨c, hc⟩ := c2
              exact ⟨c, by rw [e3]; exact hc⟩
            have a3' : ∀ n, n ≤ 14 → n ≤ l + 1 → mCa I3 M hs n := fun n h1 h2 => by
              by_cases e : n = l + 1
              · subst e
                obtain ⟨c, hc⟩ := c2
                refine ⟨c, fun q hq => ?_, hc.2⟩
                show I3 95 (201 * (l + 1) + q) = _ ∧ _
                rw [d3 (by omega) q (by rw [hout2 (by omega)]; exact hq)]
                exact hc.1 q hq
              · exact a3 n h1 (by omega)
            cases hb2 : b' with
            | false =>
              obtain ⟨q1, q2⟩ := hbf hb2
              have hb3 : (if ncl M hs l < ncl M hs (l + 1) then 1 else 0) = 0 := by rw [if_neg (by omega)]
              -- one more visit of the head, and out
              have g21' := g21
              refine xr_iload2 dX9_partAll_47 rfl ?_
              refine xr_if_eq 128 dX9_partAll_48 (by decide) (fun hz => ?_) (fun hz => ?_)
              rotate_left
              · exact absurd rfl hz
              refine xr_iload1 dX9_partAll_128 rfl ?_
              refine xr_iret dX9_partAll_129 rfl rfl ⟨⟨l, q1, rfl, q2, c3⟩, fun n hn => a3' n hn (by omega), f3, rfl⟩
            | true =>
              refine IH (300 * (15 - (l + 1)) + (201 - ncl M hs (l + 1))) ?_ (l + 1) I3 true _ _ rfl ?_ ?_ f3 c3 a3' (fun q => by cases q)
              · rcases hbt hb2 with q | q <;> omega
              · rcases hbt hb2 with q | q <;> omega
              · rcases hbt hb2 with q | q <;> omega
          refine xr_iload dX9_partAll_81 rfl ?_
          refine xr_aload0 dX9_partAll_83 rfl ?_
          refine xr_getIv dX9_partAll_84 fk_9_178 lay_77 rfl g21 ?_
          refine xr_icmp_ge 122 dX9_partAll_87 (by decide) (fun hc => ?_) (fun hc => ?_)
          · have hc := nle hc
            exact out (fun _ => by omega)
          · have hlt := nlt hc
            have IH3 := IH3 hlt
            refine xr_iload3 dX9_partAll_90 rfl ?_
            refine xr_bip bi_14 dX9_partAll_91 ?_
            refine xr_icmp_gt 122 dX9_partAll_93 (by decide) (fun h14 => ?_) (fun h14 => ?_)
            · have h14 : 14 < l + 1 := nltl (a := 14) (b := l + 1) h14
              exact out (fun q => by omega)
            · have h14 : l + 1 ≤ 14 := nnlt (a := 14) (b := l + 1) h14
              refine xr_aload0 dX9_partAll_96 rfl ?_
              refine xr_getR dX9_partAll_97 fk_9_66 lay_77 rfl ?_
              refine xr_sip si_201 dX9_partAll_100 ?_
              refine xr_iload3 dX9_partAll_103 rfl ?_
              refine xr_imul dX9_partAll_104 ?_
              refine xr_iload dX9_partAll_105 rfl ?_
              refine xr_iadd dX9_partAll_107 ?_
              refine xr_aload0 dX9_partAll_108 rfl ?_
              show xT _ _ _ 109 _ _ _ _
              refine xr_getR dX9_partAll_109 fk_9_60 lay_77 rfl ?_
              refine xr_iload dX9_partAll_112 rfl ?_
              refine xr_ialdv _ dX9_partAll_114 lay_93 rfl (by omega) (by decide) (show _ = I2 93 h0 by rw [e3]) ?_
              refine xr_iast _ dX9_partAll_115 lay_95 (by (try simp only [k_0, k_1, k_2, k_3, k_4, k_5, k_8, k_16, k_34, k_40, k_200, k_201, k_256, k_512, nI_add, pk_mul]); first | done | rfl) (by omega) (by decide) ?_
              refine xr_iinc dX9_partAll_116 rfl ii_1 (Nat.le_of_ble_eq_true rfl) ?_
              show xT _ _ _ 119 [_, _, _, _, _, _] _ _ _
              refine xr_goto 81 dX9_partAll_119 (by decide) ?_
              simp only [k_1, nI_add]
              refine IH3 _ (f3.up _ (by decide) (by decide)) (by rw [va_up_ne _ _ (by decide)]; exact e3) (fun n h1 h2 => ?_) (fun _ j hj => ?_)
              · obtain ⟨c, hc⟩ := a3 n h1 h2
                refine ⟨c, fun q hq => ?_, hc.2⟩
                show va_up I3 95 _ 95 (201 * n + q) = _ ∧ _
                rw [up_same, upd_ne _ _ (by omega)]
                exact hc.1 q hq
              · rw [up_same]
                by_cases e : j = h0
                · subst e; rw [upd_same]
                · rw [upd_ne _ _ (by omega)]; exact d3 (by omega) j (by omega)
        exact L2 0 (Nat.zero_le _) I2 f12 rfl a2 (fun _ j hj => by omega)
      refine xr_istore dX9_partAll_55 (Nat.le_of_ble_eq_true rfl) ?_
      show xT _ _ _ 57 [_, _, _, _, _, _] _ _ _
      refine xr_iload dX9_partAll_57 rfl ?_
      refine xr_iload1 dX9_partAll_59 rfl ?_
      refine xr_icmp_gt 69 dX9_partAll_60 (by decide) (fun hgt => ?_) (fun hgt => ?_)
      · have hgt : ncl M hs l < ncl M hs (l + 1) := nltl hgt
        refine xr_ic1 dX9_partAll_69 ?_
        refine xr_goto 74 dX9_partAll_70 (by decide) ?_
        exact J74 true (fun _ => Or.inr hgt) (fun q => by cases q)
      · have hgt := nnlt hgt
        refine xr_iload3 dX9_partAll_63 rfl ?_
        refine xr_bip bi_14 dX9_partAll_64 ?_
        refine xr_icmp_gt 73 dX9_partAll_66 (by decide) (fun h14 => ?_) (fun h14 => ?_)
        · have h14 : 14 < l + 1 := nltl (a := 14) (b := l + 1) h14
          refine xr_ic0 dX9_partAll_73 ?_
          exact J74 false (fun q => by cases q) (fun _ => ⟨by omega, hgt⟩)
        · have h14 : l + 1 ≤ 14 := nnlt (a := 14) (b := l + 1) h14
          refine xr_ic1 dX9_partAll_69 ?_
          refine xr_goto 74 dX9_partAll_70 (by decide) ?_
          exact J74 true (fun _ => Or.inl (by omega)) (fun q => by cases q)
  have L0 : ∀ k, k ≤ hs.length → ∀ I1, mfx [93, 94, 95] [] I I1 → (∀ j, j < k → I1 93 j = 0 ∧ I1 95 j = 0) → xT G M_X9_partAll (xMQ G (xpi fun v I' J' => (∃ l, 14 ≤ l ∧ v = nI (ncl M hs (l + 1)) ∧ ncl M hs (l + 1) ≤ ncl M hs l ∧ mCl I' M hs (l + 1)) ∧ (∀ n, n ≤ 14 → mCa I' M hs n) ∧ mfx [93, 94, 95] [] I I' ∧ J = J')) 2 [some (.ref (G.1 77)), some (.int (nI k)), none, none, none, none] [] I1 J := by
    refine x_for (fun k hk IH I1 f1 hz => ?_)
    have g21 : I1 77 21 = nI hs.length := (f1.2 21 (by decide)).trans h21
    refine xr_iload1 dX9_partAll_2 rfl ?_
    refine xr_aload0 dX9_partAll_3 rfl ?_
    refine xr_getIv dX9_partAll_4 fk_9_178 lay_77 rfl g21 ?_
    refine xr_icmp_ge 30 dX9_partAll_7 (by decide) (fun hc => ?_) (fun hc => ?_)
    · have : k = hs.length := by have := nle hc; omega
      subst this
      have J42 : ∀ v : Int32, v = nI (ncl M hs 0) → xT G M_X9_partAll (xMQ G (xpi fun v I' J' => (∃ l, 14 ≤ l ∧ v = nI (ncl M hs (l + 1)) ∧ ncl M hs (l + 1) ≤ ncl M hs l ∧ mCl I' M hs (l + 1)) ∧ (∀ n, n ≤ 14 → mCa I' M hs n) ∧ mfx [93, 94, 95] [] I I' ∧ J = J')) 42 [some (.ref (G.1 77)), some (.int (nI hs.length)), none, none, none, none] [.int v] I1 J := by
        intro v hv
        subst hv
        refine xr_istore1 dX9_partAll_42 (Nat.le_of_ble_eq_true rfl) ?_
        show xT _ _ _ 43 [_, _, _, _, _, _] _ _ _
        refine xr_ic1 dX9_partAll_43 ?_
        refine xr_istore2 dX9_partAll_44 (Nat.le_of_ble_eq_true rfl) ?_
        show xT _ _ _ 45 [_, _, _, _, _, _] _ _ _
        refine xr_ic1 dX9_partAll_45 ?_
        refine xr_istore3 dX9_partAll_46 (Nat.le_of_ble_eq_true rfl) ?_
        show xT _ _ _ 47 [_, _, _, _, _, _] _ _ _
        have hn0 := ncl_le M hs 0
        refine L _ 0 I1 true _ _ rfl (by omega) (by omega) f1 ⟨_, cls0 M hs _ _ rfl (fun j hj => (hz j hj).1)⟩ (fun n h1 h2 => ?_) (fun q => by cases q)
        have : n = 0 := by omega
        subst this
        exact ⟨_, cls0 M hs _ _ rfl (fun j hj => by rw [Nat.mul_zero, Nat.zero_add]; exact (hz j hj).2)⟩
      refine xr_aload0 dX9_partAll_30 rfl ?_
      refine xr_getIv dX9_partAll_31 fk_9_178 lay_77 rfl g21 ?_
      refine xr_if_ne 41 dX9_partAll_34 (by decide) (fun hne => ?_) (fun hne => ?_)
      · have hne : ¬ hs.length = 0 := fun q => hne (by rw [q]; rfl)
        refine xr_ic1 dX9_partAll_41 ?_
        exact J42 _ (by rw [ncl_0, if_neg hne]; rfl)
      · have he : hs.length = 0 := (nI_eq (b := 0) (by omega) (by decide)).mp hne
        refine xr_ic0 dX9_partAll_37 ?_
        refine xr_goto 42 dX9_partAll_38 (by decide) ?_
        exact J42 _ (by rw [ncl_0, if_pos he]; rfl)
    · have hkl := nlt hc
      have IH := IH hkl
      refine xr_aload0 dX9_partAll_10 rfl ?_
      refine xr_getR dX9_partAll_11 fk_9_60 lay_77 rfl ?_
      refine xr_iload1 dX9_partAll_14 rfl ?_
      refine xr_ic0 dX9_partAll_15 ?_
      refine xr_iast _ dX9_partAll_16 lay_93 rfl (by omega) (by decide) ?_
      refine xr_aload0 dX9_partAll_17 rfl ?_
      refine xr_getR dX9_partAll_18 fk_9_66 lay_77 rfl ?_
      refine xr_iload1 dX9_partAll_21 rfl ?_
      show xT _ _ _ 22 _ _ _ _
      refine xr_ic0 dX9_partAll_22 ?_
      refine xr_iast _ dX9_partAll_23 lay_95 rfl (by omega) (by decide) ?_
      refine xr_iinc dX9_partAll_24 rfl ii_1 (Nat.le_of_ble_eq_true rfl) ?_
      show xT _ _ _ 27 [_, _, _, _, _, _] _ _ _
      refine xr_goto 2 dX9_partAll_27 (by decide) ?_
      rw [k_1, nI_add]
      refine IH _ ((f1.up _ (by decide) (by decide)).up _ (by decide) (by decide)) (fun j hj => ?_)
      rw [up_same, va_up_ne _ _ (show 93 ≠ 95 by decide), up_same, va_up_ne _ _ (show 95 ≠ 93 by decide)]
      by_cases e : j = k
      · subst e; rw [upd_same, upd_same]; exact ⟨rfl, rfl⟩
      · rw [upd_ne _ _ e, upd_ne _ _ e]; exact hz j (by omega)
  refine x_ent (by decide) (Nat.le_of_ble_eq_true rfl) rfl ?_
  show xT _ _ _ 0 [_, _, _, _, _, _] _ _ _
  refine xr_ic0 dX9_partAll_0 ?_
  refine xr_istore1 dX9_partAll_1 (Nat.le_of_ble_eq_true rfl) ?_
  show xT _ _ _ 2 [_, _, _, _, _, _] _ _ _
  exact L0 0 (Nat.zero_le _) I mfx.rf (fun j hj => by omega)
end M17
