section M16
variable {G : xG} {I : xI} {J : xJ}
theorem c9_isSameNow {M : xMac} (h : mMach I M) {hs : List (List Nat)} (hl : hs.length ≤ 200) (hmd : mHd I M hs hs.length) {n : Nat} (hcl : mCl I M hs n) {g k : Nat} (hg : g < hs.length) (hk : k < hs.length) (hout : ∀ a ∈ hs, ∀ x, x < mK M → wout M a x < 4) : xCon G M_X9_isSameNow [.ref (G.1 77), .int (nI g), .int (nI k)] I J (xpi fun v I' J' => v = b2 (wE M (n + 1) hs[g] hs[k]) ∧ I = I' ∧ J = J') := by
  obtain ⟨c, c1, c2⟩ := hcl
  have hK4 := h.1.2.1
  have L : ∀ x, x ≤ mK M → ∀ b : Bool, (b = true ↔ ∀ x', x' < x → wout M hs[g] x' = wout M hs[k] x' ∧ wEqn M n (wpart M hs[g] x') (wpart M hs[k] x')) → xT G M_X9_isSameNow (xMQ G (xpi fun v I' J' => v = b2 (wE M (n + 1) hs[g] hs[k]) ∧ I = I' ∧ J = J')) 5 [some (.ref (G.1 77)), some (.int (nI g)), some (.int (nI k)), some (.int (b2 b)), some (.int (nI x))] [] I J := by
    refine x_for (fun x hx IH b hb => ?_)
    refine xr_iload dX9_isSameNow_5 rfl ?_
    refine xr_aload0 dX9_isSameNow_7 rfl ?_
    refine xr_getIv dX9_isSameNow_8 fk_9_19 lay_77 rfl h.2.1 ?_
    refine xr_icmp_ge 90 dX9_isSameNow_11 (by decide) (fun hc => ?_) (fun hc => ?_)
    · have : x = mK M := by have := nle hc; omega
      subst this
      refine xr_iload3 dX9_isSameNow_90 rfl ?_
      refine xr_zret dX9_isSameNow_91 rfl rfl (b2_01 _) ⟨b2_iff (hb.trans (wE_iff (M := M) (n := n + 1) (a := hs[g]) (b := hs[k])).symm), rfl, rfl⟩
    · have hxK := nlt hc
      have IH := IH hxK
      obtain ⟨o1, j1, n1, a1⟩ := hmd g hg hg x hxK
      obtain ⟨o2, j2, n2, a2⟩ := hmd k hk hk x hxK
      have hj1 := (List.getElem?_eq_some_iff.mp a1).1
      have hj2 := (List.getElem?_eq_some_iff.mp a2).1
      have w1 := hout _ (List.getElem_mem hg) x hxK
      have w2 := hout _ (List.getElem_mem hk) x hxK
      have q1 := c1 j1 hj1
      have q2 := c1 j2 hj2
      have hcnt := cnt_le (wFst M hs n) hs.length
      have J83 : ∀ b' : Bool, (b' = true ↔ b = true ∧ wout M hs[g] x = wout M hs[k] x ∧ wEqn M n (wpart M hs[g] x) (wpart M hs[k] x)) → xT G M_X9_isSameNow (xMQ G (xpi fun v I' J' => v = b2 (wE M (n + 1) hs[g] hs[k]) ∧ I = I' ∧ J = J')) 83 [some (.ref (G.1 77)), some (.int (nI g)), some (.int (nI k)), some (.int (b2 b)), some (.int (nI x))] [.int (b2 b')] I J := by
        intro b' hb'
        refine xr_istore3 dX9_isSameNow_83 (Nat.le_of_ble_eq_true rfl) ?_
        show xT _ _ _ 84 [_, _, _, _, _] _ _ _
        refine xr_iinc dX9_isSameNow_84 rfl ii_1 (Nat.le_of_ble_eq_true rfl) ?_
        show xT _ _ _ 87 [_, _, _, _, _] _ _ _
        refine xr_goto 5 dX9_isSameNow_87 (by decide) ?_
        rw [k_1, nI_add]
        refine IH b' (hb'.trans ⟨fun q x' hx' => ?_, fun q => ⟨hb.mpr (fun x' hx' => q x' (by omega)), q x (by omega)⟩⟩)
        by_cases e : x' = x
        · subst e; exact q.2
        · exact hb.mp q.1 x' (by omega)
      refine xr_iload3 dX9_isSameNow_14 rfl ?_
      refine xr_if_eq 82 dX9_isSameNow_15 (by decide) (fun hb0 => ?_) (fun hb0 => ?_)
      · have hb0 := b2_0.mp hb0
        refine xr_ic0 dX9_isSameNow_82 ?_
        exact J83 false ⟨fun q => (by cases q), fun q => by rw [hb0] at q; exact absurd q.1 (by decide)⟩
      · have hb1 : b = true := by
          cases b with
          | true => rfl
          | false => exact absurd rfl hb0
        refine xr_aload0 dX9_isSameNow_18 rfl ?_
        refine xr_getR dX9_isSameNow_19 fk_9_54 lay_77 rfl ?_
        refine xr_ic4 dX9_isSameNow_22 ?_
        refine xr_iload1 dX9_isSameNow_23 rfl ?_
        refine xr_imul dX9_isSameNow_24 ?_
        refine xr_iload dX9_isSameNow_25 rfl ?_
        refine xr_iadd dX9_isSameNow_27 ?_
        refine xr_ialdv _ dX9_isSameNow_28 lay_91 (by (try simp only [k_0, k_1, k_2, k_3, k_4, k_5, k_8, k_16, k_34, k_40, k_200, k_201, k_256, k_512, nI_add, pk_mul]); first | done | rfl) (by omega) (by decide) o1 ?_
        show xT _ _ _ 29 _ _ _ _
        refine xr_aload0 dX9_isSameNow_29 rfl ?_
        refine xr_getR dX9_isSameNow_30 fk_9_54 lay_77 rfl ?_
        refine xr_ic4 dX9_isSameNow_33 ?_
        refine xr_iload2 dX9_isSameNow_34 rfl ?_
        refine xr_imul dX9_isSameNow_35 ?_
        refine xr_iload dX9_isSameNow_36 rfl ?_
        refine xr_iadd dX9_isSameNow_38 ?_
        refine xr_ialdv _ dX9_isSameNow_39 lay_91 (by (try simp only [k_0, k_1, k_2, k_3, k_4, k_5, k_8, k_16, k_34, k_40, k_200, k_201, k_256, k_512, nI_add, pk_mul]); first | done | rfl) (by omega) (by decide) o2 ?_
        show xT _ _ _ 40 _ _ _ _
        refine xr_icmp_ne 82 dX9_isSameNow_40 (by decide) (fun hne => ?_) (fun hne => ?_)
        · skip
          refine xr_ic0 dX9_isSameNow_82 ?_
          exact J83 false ⟨fun q => (by cases q), fun q => absurd (by rw [q.2.1]) hne⟩
        · have heq : wout M hs[g] x = wout M hs[k] x := (nI_eq (by omega) (by omega)).mp hne
          refine xr_aload0 dX9_isSameNow_43 rfl ?_
          refine xr_getR dX9_isSameNow_44 fk_9_60 lay_77 rfl ?_
          refine xr_aload0 dX9_isSameNow_47 rfl ?_
          refine xr_getR dX9_isSameNow_48 fk_9_57 lay_77 rfl ?_
          refine xr_ic4 dX9_isSameNow_51 ?_
          refine xr_iload1 dX9_isSameNow_52 rfl ?_
          refine xr_imul dX9_isSameNow_53 ?_
          refine xr_iload dX9_isSameNow_54 rfl ?_
          show xT _ _ _ 56 _ _ _ _
          refine xr_iadd dX9_isSameNow_56 ?_
          refine xr_ialdv _ dX9_isSameNow_57 lay_92 (by (try simp only [k_0, k_1, k_2, k_3, k_4, k_5, k_8, k_16, k_34, k_40, k_200, k_201, k_256, k_512, nI_add, pk_mul]); first | done | rfl) (by omega) (by decide) n1 ?_
          refine xr_ialdv _ dX9_isSameNow_58 lay_93 rfl (by omega) (by decide) q1.1 ?_
          refine xr_aload0 dX9_isSameNow_59 rfl ?_
          refine xr_getR dX9_isSameNow_60 fk_9_60 lay_77 rfl ?_
          refine xr_aload0 dX9_isSameNow_63 rfl ?_
          refine xr_getR dX9_isSameNow_64 fk_9_57 lay_77 rfl ?_
          refine xr_ic4 dX9_isSameNow_67 ?_
          show xT _ _ _ 68 _ _ _ _
          refine xr_iload2 dX9_isSameNow_68 rfl ?_
          refine xr_imul dX9_isSameNow_69 ?_
          refine xr_iload dX9_isSameNow_70 rfl ?_
          refine xr_iadd dX9_isSameNow_72 ?_
          refine xr_ialdv _ dX9_isSameNow_73 lay_92 (by (try simp only [k_0, k_1, k_2, k_3, k_4, k_5, k_8, k_16, k_34, k_40, k_200, k_201, k_256, k_512, nI_add, pk_mul]); first | done | rfl) (by omega) (by decide) n2 ?_
          refine xr_ialdv _ dX9_isSameNow_74 lay_93 rfl (by omega) (by decide) q2.1 ?_
          have hiff : c j1 = c j2 ↔ wEqn M n (wpart M hs[g] x) (wpart M hs[k] x) := by
            have := c2 j1 j2 hj1 hj2
            rw [getD_at a1, getD_at a2] at this
            exact this
          refine xr_icmp_ne 82 dX9_isSameNow_75 (by decide) (fun hne2 => ?_) (fun hne2 => ?_)
          · skip
            refine xr_ic0 dX9_isSameNow_82 ?_
            exact J83 false ⟨fun q => (by cases q), fun q => absurd (by rw [hiff.mpr q.2.2]) hne2⟩
          · have heq2 : c j1 = c j2 := (nI_eq (by omega) (by omega)).mp hne2
            refine xr_ic1 dX9_isSameNow_78 ?_
            refine xr_goto 83 dX9_isSameNow_79 (by decide) ?_
            exact J83 true ⟨fun _ => ⟨hb1, heq, hiff.mp heq2⟩, fun _ => rfl⟩
  refine x_ent (by decide) (Nat.le_of_ble_eq_true rfl) rfl ?_
  show xT _ _ _ 0 [_, _, _, _, _] _ _ _
  refine xr_ic1 dX9_isSameNow_0 ?_
  refine xr_istore3 dX9_isSameNow_1 (Nat.le_of_ble_eq_true rfl) ?_
  show xT _ _ _ 2 [_, _, _, _, _] _ _ _
  refine xr_ic0 dX9_isSameNow_2 ?_
  refine xr_istore dX9_isSameNow_3 (Nat.le_of_ble_eq_true rfl) ?_
  show xT _ _ _ 5 [_, _, _, _, _] _ _ _
  exact L 0 (Nat.zero_le _) true ⟨fun _ x' hx' => by omega, fun _ => rfl⟩
theorem c9_partOnce {M : xMac} (h : mMach I M) {hs : List (List Nat)} (h21 : I 77 21 = nI hs.length) (hl : hs.length ≤ 200) (hmd : mHd I M hs hs.length) {n : Nat} (hcl : mCl I M hs n) (hout : ∀ a ∈ hs, ∀ x, x < mK M → wout M a x < 4) : xCon G M_X9_partOnce [.ref (G.1 77)] I J (xpi fun v I' J' => v = nI (ncl M hs (n + 1)) ∧ mCl I' M hs (n + 1) ∧ mfx [93, 94] [] I I' ∧ J = J') := by
  -- the second loop: the numbers are brought over
  have L3 : ∀ c k, k ≤ hs.length → ∀ I1 (z3 : Option Value), mfx [93, 94] [] I I1 → isCls M hs (n + 1) (I1 94) c hs.length → (∀ j, j < k → I1 93 j = I1 94 j) → xT G M_X9_partOnce (xMQ G (xpi fun v I' J' => v = nI (ncl M hs (n + 1)) ∧ mCl I' M hs (n + 1) ∧ mfx [93, 94] [] I I' ∧ J = J')) 93 [some (.ref (G.1 77)), some (.int (nI (ncl M hs (n + 1)))), some (.int (nI k)), z3] [] I1 J := by
    intro c
    refine x_for (fun k hk IH I1 z3 f1 c1 hd => ?_)
    have g21 : I1 77 21 = nI hs.length := (f1.2 21 (by decide)).trans h21
    refine xr_iload2 dX9_partOnce_93 rfl ?_
    refine xr_aload0 dX9_partOnce_94 rfl ?_
    refine xr_getIv dX9_partOnce_95 fk_9_178 lay_77 rfl g21 ?_
    refine xr_icmp_ge 119 dX9_partOnce_98 (by decide) (fun hc => ?_) (fun hc => ?_)
    · have : k = hs.length := by have := nle hc; omega
      subst this
      refine xr_iload1 dX9_partOnce_119 rfl ?_
      refine xr_iret dX9_partOnce_120 rfl rfl ⟨rfl, ⟨c, fun j hj => by rw [hd j hj]; exact c1.1 j hj, c1.2⟩, f1, rfl⟩
    · have hkl := nlt hc
      have IH := IH hkl
      refine xr_aload0 dX9_partOnce_101 rfl ?_
      refine xr_getR dX9_partOnce_102 fk_9_60 lay_77 rfl ?_
      refine xr_iload2 dX9_partOnce_105 rfl ?_
      refine xr_aload0 dX9_partOnce_106 rfl ?_
      refine xr_getR dX9_partOnce_107 fk_9_63 lay_77 rfl ?_
      refine xr_iload2 dX9_partOnce_110 rfl ?_
      refine xr_iald _ dX9_partOnce_111 lay_94 rfl (by omega) (by decide) ?_
      refine xr_iast _ dX9_partOnce_112 lay_93 rfl (by omega) (by decide) ?_
      show xT _ _ _ 113 _ _ _ _
      refine xr_iinc dX9_partOnce_113 rfl ii_1 (Nat.le_of_ble_eq_true rfl) ?_
      show xT _ _ _ 116 [_, _, _, _] _ _ _
      refine xr_goto 93 dX9_partOnce_116 (by decide) ?_
      rw [k_1, nI_add]
      refine IH _ z3 (f1.up _ (by decide) (by decide)) (by rw [va_up_ne _ _ (by decide)]; exact c1) (fun j hj => ?_)
      rw [up_same, va_up_ne _ _ (by decide)]
      by_cases e : j = k
      · subst e; rw [upd_same]
      · rw [upd_ne _ _ e]; exact hd j (by omega)
  have L1 : ∀ k, k ≤ hs.length → ∀ I1 (z3 : Option Value) (c : Nat → Nat), mfx [94] [] I I1 → isCls M hs (n + 1) (I1 94) c k → xT G M_X9_partOnce (xMQ G (xpi fun v I' J' => v = nI (ncl M hs (n + 1)) ∧ mCl I' M hs (n + 1) ∧ mfx [93, 94] [] I I' ∧ J = J')) 4 [some (.ref (G.1 77)), some (.int (nI (cnt (wFst M hs (n + 1)) k))), some (.int (nI k)), z3] [] I1 J := by
    refine x_for (fun k hk IH I1 z3 c f1 c1 => ?_)
    have g21 : I1 77 21 = nI hs.length := (f1.2 21 (by decide)).trans h21
    have hcntk := cnt_le (wFst M hs (n + 1)) k
    refine xr_iload2 dX9_partOnce_4 rfl ?_
    refine xr_aload0 dX9_partOnce_5 rfl ?_
    refine xr_getIv dX9_partOnce_6 fk_9_178 lay_77 rfl g21 ?_
    refine xr_icmp_ge 91 dX9_partOnce_9 (by decide) (fun hc => ?_) (fun hc => ?_)
    · have : k = hs.length := by have := nle hc; omega
      subst this
      refine xr_ic0 dX9_partOnce_91 ?_
      refine xr_istore2 dX9_partOnce_92 (Nat.le_of_ble_eq_true rfl) ?_
      show xT _ _ _ 93 [_, _, _, _] _ _ _
      exact L3 c 0 (Nat.zero_le _) I1 _ (f1.mono (by simp) (fun a h => h)) c1 (fun j hj => by omega)
    · have hkl := nlt hc
      have IH := IH hkl
      refine xr_aload0 dX9_partOnce_12 rfl ?_
      refine xr_getR dX9_partOnce_13 fk_9_63 lay_77 rfl ?_
      refine xr_iload2 dX9_partOnce_16 rfl ?_
      refine xr_icm1 dX9_partOnce_17 ?_
      refine xr_iast _ dX9_partOnce_18 lay_94 rfl (by omega) (by decide) ?_
      refine xr_ic0 dX9_partOnce_19 ?_
      refine xr_istore3 dX9_partOnce_20 (Nat.le_of_ble_eq_true rfl) ?_
      show xT _ _ _ 21 [_, _, _, _] _ _ _
      generalize hI2 : va_up I1 94 (upd (I1 94) k (-1)) = I2
      have f2 : mfx [94] [] I I2 := by rw [← hI2]; exact f1.up _ (by decide) (by decide)
      have c2 : ∀ j, j < k → I2 94 j = nI (c j) := fun j hj => by rw [← hI2, up_same, upd_ne _ _ (by omega)]; exact (c1.1 j hj).1
      have k2 : I2 94 k = -1 := by rw [← hI2, up_same, upd_same]
      -- going over the earlier ones
      have L2 : ∀ g, g ≤ k → ∀ I3 (o : Option Nat), mfx [94] [] I I3 → (∀ j, j < k → I3 94 j = nI (c j)) → I3 94 k = oI (o.map c) → (∀ j, o = some j → j < k ∧ wEqn M (n + 1) (hs.getD j []) (hs.getD k [])) → (o = none → ∀ j, j < g → ¬ wEqn M (n + 1) (hs.getD j []) (hs.getD k [])) → xT G M_X9_partOnce (xMQ G (xpi fun v I' J' => v = nI (ncl M hs (n + 1)) ∧ mCl I' M hs (n + 1) ∧ mfx [93, 94] [] I I' ∧ J = J')) 21 [some (.ref (G.1 77)), some (.int (nI (cnt (wFst M hs (n + 1)) k))), some (.int (nI k)), some (.int (nI g))] [] I3 J := by
        refine x_for (fun g hg IH2 I3 o f3 c3 k3 ho hno => ?_)
        have fin : (o = none → g = k) → xT G M_X9_partOnce (xMQ G (xpi fun v I' J' => v = nI (ncl M hs (n + 1)) ∧ mCl I' M hs (n + 1) ∧ mfx [93, 94] [] I I' ∧ J = J')) 66 [some (.ref (G.1 77)), some (.int (nI (cnt (wFst M hs (n + 1)) k))), some (.int (nI k)), some (.int (nI g))] [] I3 J := by
          intro hfin
          refine xr_aload0 dX9_partOnce_66 rfl ?_
          refine xr_getR dX9_partOnce_67 fk_9_63 lay_77 rfl ?_
          refine xr_iload2 dX9_partOnce_70 rfl ?_
          refine xr_ialdv _ dX9_partOnce_71 lay_94 rfl (by omega) (by decide) k3 ?_
          cases o with
          | some j =>
            obtain ⟨hjk, hj⟩ := ho j rfl
            have hcj := (c1.1 j hjk).2
            refine xr_if_ge 85 dX9_partOnce_72 (by decide) (fun hge => ?_) (fun hge => ?_)
            rotate_left
            · exact absurd (nI_pos' (by omega)) hge
            refine xr_iinc dX9_partOnce_85 rfl ii_1 (Nat.le_of_ble_eq_true rfl) ?_
            show xT _ _ _ 88 [_, _, _, _] _ _ _
            refine xr_goto 4 dX9_partOnce_88 (by decide) ?_
            rw [k_1, nI_add]
            have hf : wFst M hs (n + 1) k = false := by
              cases hq : wFst M hs (n + 1) k with
              | false => rfl
              | true => exact absurd hj (wFst_iff.mp hq j hjk)
            have hcs : cnt (wFst M hs (n + 1)) (k + 1) = cnt (wFst M hs (n + 1)) k := by
              show cnt _ k + cond (wFst M hs (n + 1) k) 1 0 = _
              rw [hf]; rfl
            rw [hcs] at IH
            refine IH I3 _ (fun q => if q = k then c j else c q) f3 ⟨fun q hq => ?_, fun a b ha hb => ?_⟩
            · rw [hcs]
              dsimp only
              by_cases e : q = k
              · rw [if_pos e, e]; exact ⟨k3, hcj⟩
              · rw [if_neg e]; exact ⟨c3 q (by omega), (c1.1 q (by omega)).2⟩
            · dsimp only
              by_cases ea : a = k <;> by_cases eb : b = k
              · subst ea; subst eb; simp [wEqn.rf]
              · rw [if_pos ea, if_neg eb, ea, c1.2 j b hjk (by omega)]
                exact ⟨fun q => hj.sy.tr q, fun q => hj.tr q⟩
              · rw [if_neg ea, if_pos eb, eb, c1.2 a j (by omega) hjk]
                exact ⟨fun q => q.tr hj, fun q => q.tr hj.sy⟩
              · rw [if_neg ea, if_neg eb]; exact c1.2 a b (by omega) (by omega)
          | none =>
            have hgk := hfin rfl
            refine xr_if_ge 85 dX9_partOnce_72 (by decide) (fun hge => ?_) (fun hge => ?_)
            · exact absurd hge (show ¬ (0 : Int32) ≤ -1 by decide)
            refine xr_aload0 dX9_partOnce_75 rfl ?_
            refine xr_getR dX9_partOnce_76 fk_9_63 lay_77 rfl ?_
            refine xr_iload2 dX9_partOnce_79 rfl ?_
            refine xr_iload1 dX9_partOnce_80 rfl ?_
            refine xr_iast _ dX9_partOnce_81 lay_94 rfl (by omega) (by decide) ?_
            refine xr_iinc dX9_partOnce_82 rfl ii_1 (Nat.le_of_ble_eq_true rfl) ?_
            show xT _ _ _ 85 [_, _, _, _] _ _ _
            refine xr_iinc dX9_partOnce_85 rfl ii_1 (Nat.le_of_ble_eq_true rfl) ?_
            show xT _ _ _ 88 [_, _, _, _] _ _ _
            refine xr_goto 4 dX9_partOnce_88 (by decide) ?_
            show xT _ _ _ 4 _ _ _ _
            rw [k_1, nI_add, nI_add]
            have hf : wFst M hs (n + 1) k = true := wFst_iff.mpr (fun j hj => hno rfl j (by omega))
            have hcs : cnt (wFst M hs (n + 1)) (k + 1) = cnt (wFst M hs (n + 1)) k + 1 := by
              show cnt _ k + cond (wFst M hs (n + 1) k) 1 0 = _
              rw [hf]; rfl
            rw [hcs] at IH
            refine IH _ _ (fun q => if q = k then cnt (wFst M hs (n + 1)) k else c q) (f3.up _ (by decide) (by decide)) ⟨fun q hq => ?_, fun a b ha hb => ?_⟩
            · rw [hcs, up_same]
              dsimp only
              by_cases e : q = k
              · rw [if_pos e, e, upd_same]; exact ⟨rfl, by omega⟩
              · rw [if_neg e, upd_ne _ _ e]; exact ⟨c3 q (by omega), by have := (c1.1 q (by omega)).2; omega⟩
            · dsimp only
              by_cases ea : a = k <;> by_cases eb : b = k
              · subst ea; subst eb; simp [wEqn.rf]
              · rw [if_pos ea, if_neg eb, ea]
                have hb2 := (c1.1 b (by omega)).2
                exact ⟨fun q => by omega, fun q => absurd q.sy (hno rfl b (by omega))⟩
              · rw [if_neg ea, if_pos eb, eb]
                have ha2 := (c1.1 a (by omega)).2
                exact ⟨fun q => by omega, fun q => absurd q (hno rfl a (by omega))⟩
              · rw [if_neg ea, if_neg eb]; exact c1.2 a b (by omega) (by omega)
        refine xr_iload3 dX9_partOnce_21 rfl ?_
        refine xr_iload2 dX9_partOnce_22 rfl ?_
        refine xr_icmp_ge 66 dX9_partOnce_23 (by decide) (fun hc2 => ?_) (fun hc2 => ?_)
        · have hc2 := nle hc2
          exact fin (fun _ => by omega)
        · have hgk := nlt hc2
          have IH2 := IH2 hgk
          refine xr_aload0 dX9_partOnce_26 rfl ?_
          refine xr_getR dX9_partOnce_27 fk_9_63 lay_77 rfl ?_
          refine xr_iload2 dX9_partOnce_30 rfl ?_
          refine xr_ialdv _ dX9_partOnce_31 lay_94 rfl (by omega) (by decide) k3 ?_
          cases o with
          | some j =>
            obtain ⟨hjk, hj⟩ := ho j rfl
            have hcj := (c1.1 j hjk).2
            refine xr_if_ge 66 dX9_partOnce_32 (by decide) (fun hge => ?_) (fun hge => ?_)
            · exact fin (fun q => by cases q)
            · exact absurd (nI_pos' (by omega)) hge
          | none =>
            refine xr_if_ge 66 dX9_partOnce_32 (by decide) (fun hge => ?_) (fun hge => ?_)
            · exact absurd hge (show ¬ (0 : Int32) ≤ -1 by decide)
            have hmd3 : mHd I3 M hs hs.length := fun q hq hq2 y hy => by rw [f3.1 91 (by decide) (by decide), f3.1 92 (by decide) (by decide)]; exact hmd q hq hq2 y hy
            have hcl3 : mCl I3 M hs n := by
              obtain ⟨c0, d0⟩ := hcl
              exact ⟨c0, by rw [f3.1 93 (by decide) (by decide)]; exact d0⟩
            refine xr_aload0 dX9_partOnce_35 rfl ?_
            refine xr_getR dX9_partOnce_36 fk_9_63 lay_77 rfl ?_
            refine xr_iload2 dX9_partOnce_39 rfl ?_
            refine xr_aload0 dX9_partOnce_40 rfl ?_
            refine xr_iload3 dX9_partOnce_41 rfl ?_
            refine xr_iload2 dX9_partOnce_42 rfl ?_
            refine xr_cVi [_, _] dX9_partOnce_43 (xcv_of cf_X9_isSameNow ml_9_194 (by decide)) rfl lay_77 rfl rfl rfl (Nat.le_of_ble_eq_true rfl) (c9_isSameNow (f3.mach h (by decide) (by decide)) hl hmd3 hcl3 (by omega) hkl hout) (fun v I4 J4 hc4 => ?_)
            obtain ⟨rfl, rfl, rfl⟩ := hc4
            have hgd : hs.getD g [] = hs[g]'(by omega) := getD_lt (by omega)
            have hkd : hs.getD k [] = hs[k] := getD_lt hkl
            have J59 : ∀ o' : Option Nat, (∀ j, o' = some j → j < k ∧ wEqn M (n + 1) (hs.getD j []) (hs.getD k [])) → (o' = none → ¬ wEqn M (n + 1) (hs.getD g []) (hs.getD k [])) → xT G M_X9_partOnce (xMQ G (xpi fun v I' J' => v = nI (ncl M hs (n + 1)) ∧ mCl I' M hs (n + 1) ∧ mfx [93, 94] [] I I' ∧ J = J')) 59 [some (.ref (G.1 77)), some (.int (nI (cnt (wFst M hs (n + 1)) k))), some (.int (nI k)), some (.int (nI g))] [.int (oI (o'.map c)), .int (nI k), .ref (G.1 94)] I3 J := by
              intro o' ho' hno'
              refine xr_iast _ dX9_partOnce_59 lay_94 rfl (by omega) (by decide) ?_
              refine xr_iinc dX9_partOnce_60 rfl ii_1 (Nat.le_of_ble_eq_true rfl) ?_
              show xT _ _ _ 63 [_, _, _, _] _ _ _
              refine xr_goto 21 dX9_partOnce_63 (by decide) ?_
              rw [k_1, nI_add]
              refine IH2 _ o' (f3.up _ (by decide) (by decide)) (fun j hj => by rw [up_same, upd_ne _ _ (by omega)]; exact c3 j hj) (by rw [up_same, upd_same]) ho' (fun q j hj => ?_)
              by_cases e : j = g
              · subst e; exact hno' q
              · exact hno rfl j (by omega)
            refine xr_if_eq 58 dX9_partOnce_46 (by decide) (fun hs0 => ?_) (fun hs0 => ?_)
            · have hs0 := b2_0.mp hs0
              refine xr_icm1 dX9_partOnce_58 ?_
              refine J59 none (fun j q => by cases q) (fun _ q => ?_)
              rw [hgd, hkd] at q
              rw [wE_iff.mpr q] at hs0
              cases hs0
            · have hs1 : wEqn M (n + 1) (hs.getD g []) (hs.getD k []) := by
                rw [hgd, hkd, ← wE_iff]
                cases hq : wE M (n + 1) (hs[g]'(by omega)) hs[k] with
                | true => rfl
                | false => rw [hq] at hs0; exact absurd rfl hs0
              refine xr_aload0 dX9_partOnce_49 rfl ?_
              refine xr_getR dX9_partOnce_50 fk_9_63 lay_77 rfl ?_
              refine xr_iload3 dX9_partOnce_53 rfl ?_
              refine xr_ialdv _ dX9_partOnce_54 lay_94 rfl (by omega) (by decide) (c3 g hgk) ?_
              refine xr_goto 59 dX9_partOnce_55 (by decide) ?_
              exact J59 (some g) (fun j q => by cases q; exact ⟨hgk, hs1⟩) (fun q => by cases q)
      exact L2 0 (Nat.zero_le _) I2 none f2 c2 k2 (fun j q => by cases q) (fun _ j hj => by omega)
  refine x_ent (by decide) (Nat.le_of_ble_eq_true rfl) rfl ?_
  show xT _ _ _ 0 [_, _, _, _] _ _ _
  refine xr_ic0 dX9_partOnce_0 ?_
  refine xr_istore1 dX9_partOnce_1 (Nat.le_of_ble_eq_true rfl) ?_
  show xT _ _ _ 2 [_, _, _, _] _ _ _
  refine xr_ic0 dX9_partOnce_2 ?_
  refine xr_istore2 dX9_partOnce_3 (Nat.le_of_ble_eq_true rfl) ?_
  show xT _ _ _ 4 [_, _, _, _] _ _ _
  exact L1 0 (Nat.zero_le _) I _ (fun _ => 0) mfx.rf ⟨fun q hq => by omega, fun a b ha => by omega⟩
end M16
