section M14
variable {G : xG} {I : xI} {J : xJ}
theorem c9_findInHeap {hs : List (List Nat)} {w : Nat} {ws : List Nat} (hH : mHp I hs) (hm16 : ∀ a ∈ hs, ∀ m ∈ a, m < 16) (hw : w < 12) (hW : mWd I w ws) (hl : ws.length ≤ 16) (hws : ∀ m ∈ ws, m < 16) : xCon G M_X9_findInHeap [.ref (G.1 77), .int (nI w)] I J (xpi fun v I' J' => (∃ o, v = oI o ∧ hIs hs ws o) ∧ I = I' ∧ J = J') := by
  obtain ⟨h21, h201, hh⟩ := hH
  obtain ⟨w84, w83⟩ := hW
  have L : ∀ h, h ≤ hs.length → ∀ (o : Option Nat) (z4 z5 : Option Value), (∀ j, o = some j → ∃ hj : j < hs.length, hs[j] = ws) → (o = none → ∀ j (hj : j < hs.length), j < h → hs[j] ≠ ws) → xT G M_X9_findInHeap (xMQ G (xpi fun v I' J' => (∃ o, v = oI o ∧ hIs hs ws o) ∧ I = I' ∧ J = J')) 4 [some (.ref (G.1 77)), some (.int (nI w)), some (.int (oI o)), some (.int (nI h)), z4, z5] [] I J := by
    refine x_for (fun h hle IH o z4 z5 ho hn => ?_)
    refine xr_iload3 dX9_findInHeap_4 rfl ?_
    refine xr_aload0 dX9_findInHeap_5 rfl ?_
    refine xr_getIv dX9_findInHeap_6 fk_9_178 lay_77 rfl h21 ?_
    have fin : (o = none → h = hs.length) → xT G M_X9_findInHeap (xMQ G (xpi fun v I' J' => (∃ o, v = oI o ∧ hIs hs ws o) ∧ I = I' ∧ J = J')) 114 [some (.ref (G.1 77)), some (.int (nI w)), some (.int (oI o)), some (.int (nI h)), z4, z5] [] I J := by
      intro hno
      refine xr_iload2 dX9_findInHeap_114 rfl ?_
      refine xr_iret dX9_findInHeap_115 rfl rfl ⟨⟨o, rfl, ?_⟩, rfl, rfl⟩
      cases o with
      | some j => exact ho j rfl
      | none =>
        intro q
        obtain ⟨j, hj, e⟩ := List.getElem_of_mem q
        exact hn rfl j hj (by have := hno rfl; omega) e
    refine xr_icmp_ge 114 dX9_findInHeap_9 (by decide) (fun hc => ?_) (fun hc => ?_)
    · have : h = hs.length := by have := nle hc; omega
      exact fin (fun _ => this)
    · have hlt := nlt hc
      have IH := IH hlt
      refine xr_iload2 dX9_findInHeap_12 rfl ?_
      refine xr_if_ge 114 dX9_findInHeap_13 (by decide) (fun hge => ?_) (fun hge => ?_)
      · refine fin (fun q => ?_)
        subst q
        exact absurd hge (by decide)
      · have hnone : o = none := by
          cases o with
          | none => rfl
          | some j =>
            obtain ⟨hj, -⟩ := ho j rfl
            exact absurd (nI_pos' (by omega)) hge
        subst hnone
        obtain ⟨g1, g2, g3⟩ := hh h hlt
        have hm := hm16 _ (List.getElem_mem hlt)
        refine xr_aload0 dX9_findInHeap_16 rfl ?_
        refine xr_getR dX9_findInHeap_17 fk_9_51 lay_77 rfl ?_
        refine xr_iload3 dX9_findInHeap_20 rfl ?_
        refine xr_ialdv _ dX9_findInHeap_21 lay_90 rfl (by omega) (by decide) g2 ?_
        refine xr_aload0 dX9_findInHeap_22 rfl ?_
        refine xr_getR dX9_findInHeap_23 fk_9_32 lay_77 rfl ?_
        refine xr_iload1 dX9_findInHeap_26 rfl ?_
        refine xr_ialdv _ dX9_findInHeap_27 lay_84 rfl hw (by decide) w84 ?_
        show xT _ _ _ 28 _ _ _ _
        -- the letters are compared
        have L2 : ∀ i, i ≤ ws.length → ∀ (b : Bool), (b = true → hs[h].length = ws.length ∧ ∀ k, k < i → I 89 (16 * h + k) = I 83 (34 * w + k)) → (b = false → hs[h] ≠ ws) → xT G M_X9_findInHeap (xMQ G (xpi fun v I' J' => (∃ o, v = oI o ∧ hIs hs ws o) ∧ I = I' ∧ J = J')) 41 [some (.ref (G.1 77)), some (.int (nI w)), some (.int (oI none)), some (.int (nI h)), some (.int (b2 b)), some (.int (nI i))] [] I J := by
          refine x_for (fun i hi IH2 b hb hb' => ?_)
          have out : (b = true → i = ws.length) → xT G M_X9_findInHeap (xMQ G (xpi fun v I' J' => (∃ o, v = oI o ∧ hIs hs ws o) ∧ I = I' ∧ J = J')) 97 [some (.ref (G.1 77)), some (.int (nI w)), some (.int (oI none)), some (.int (nI h)), some (.int (b2 b)), some (.int (nI i))] [] I J := by
            intro hout
            refine xr_iload dX9_findInHeap_97 rfl ?_
            refine xr_if_eq 106 dX9_findInHeap_99 (by decide) (fun hb0 => ?_) (fun hb0 => ?_)
            · have hb0 := b2_0.mp hb0
              refine xr_icm1 dX9_findInHeap_106 ?_
              refine xr_istore2 dX9_findInHeap_107 (Nat.le_of_ble_eq_true rfl) ?_
              show xT _ _ _ 108 [_, _, _, _, _, _] _ _ _
              refine xr_iinc dX9_findInHeap_108 rfl ii_1 (Nat.le_of_ble_eq_true rfl) ?_
              show xT _ _ _ 111 [_, _, _, _, _, _] _ _ _
              refine xr_goto 4 dX9_findInHeap_111 (by decide) ?_
              rw [k_1, nI_add]
              refine IH none _ _ (fun j q => by cases q) (fun _ j hj hjh => ?_)
              by_cases e : j = h
              · subst e; exact hb' hb0
              · exact hn rfl j hj (by omega)
            · have hb1 : b = true := by
                cases b with
                | true => rfl
                | false => exact absurd rfl hb0
              refine xr_iload3 dX9_findInHeap_102 rfl ?_
              refine xr_goto 107 dX9_findInHeap_103 (by decide) ?_
              refine xr_istore2 dX9_findInHeap_107 (Nat.le_of_ble_eq_true rfl) ?_
              show xT _ _ _ 108 [_, _, _, _, _, _] _ _ _
              refine xr_iinc dX9_findInHeap_108 rfl ii_1 (Nat.le_of_ble_eq_true rfl) ?_
              show xT _ _ _ 111 [_, _, _, _, _, _] _ _ _
              refine xr_goto 4 dX9_findInHeap_111 (by decide) ?_
              rw [k_1, nI_add]
              obtain ⟨e1, e2⟩ := hb hb1
              have := hout hb1
              refine IH (some h) _ _ (fun j q => ?_) (fun q => by cases q)
              cases q
              exact ⟨hlt, lrep.eq g3 w83 (fun m q => by have := hm m q; omega) (fun m q => by have := hws m q; omega) e1 (fun k hk => e2 k (by omega))⟩
          refine xr_iload dX9_findInHeap_41 rfl ?_
          refine xr_aload0 dX9_findInHeap_43 rfl ?_
          refine xr_getR dX9_findInHeap_44 fk_9_32 lay_77 rfl ?_
          refine xr_iload1 dX9_findInHeap_47 rfl ?_
          refine xr_ialdv _ dX9_findInHeap_48 lay_84 rfl hw (by decide) w84 ?_
          refine xr_icmp_ge 97 dX9_findInHeap_49 (by decide) (fun hc2 => ?_) (fun hc2 => ?_)
          · have hc2 := nle hc2
            exact out (fun _ => by omega)
          · have hil := nlt hc2
            have IH2 := IH2 hil
            refine xr_iload dX9_findInHeap_52 rfl ?_
            refine xr_if_eq 97 dX9_findInHeap_54 (by decide) (fun hb0 => ?_) (fun hb0 => ?_)
            · have hb0 := b2_0.mp hb0
              exact out (fun q => by rw [hb0] at q; cases q)
            · have hb1 : b = true := by
                cases b with
                | true => rfl
                | false => exact absurd rfl hb0
              obtain ⟨e1, e2⟩ := hb hb1
              have J89 : ∀ b' : Bool, (b' = true ↔ I 89 (16 * h + i) = I 83 (34 * w + i)) → xT G M_X9_findInHeap (xMQ G (xpi fun v I' J' => (∃ o, v = oI o ∧ hIs hs ws o) ∧ I = I' ∧ J = J')) 89 [some (.ref (G.1 77)), some (.int (nI w)), some (.int (oI none)), some (.int (nI h)), some (.int (b2 b)), some (.int (nI i))] [.int (b2 b')] I J := by
                intro b' hbb
                refine xr_istore dX9_findInHeap_89 (Nat.le_of_ble_eq_true rfl) ?_
                show xT _ _ _ 91 [_, _, _, _, _, _] _ _ _
                refine xr_iinc dX9_findInHeap_91 rfl ii_1 (Nat.le_of_ble_eq_true rfl) ?_
                show xT _ _ _ 94 [_, _, _, _, _, _] _ _ _
                refine xr_goto 41 dX9_findInHeap_94 (by decide) ?_
                rw [k_1, nI_add]
                refine IH2 b' (fun q => ⟨e1, fun k hk => ?_⟩) (fun q e => ?_)
                · by_cases ek : k = i
                  · subst ek; exact hbb.mp q
                  · exact e2 k (by omega)
                · have : b' = true := hbb.mpr (by
                    rw [w83 i hil, g3 i (by rw [e]; exact hil)]
                    congr 1
                    simp only [e])
                  rw [this] at q; cases q
              refine xr_aload0 dX9_findInHeap_57 rfl ?_
              refine xr_getR dX9_findInHeap_58 fk_9_48 lay_77 rfl ?_
              refine xr_bip bi_16 dX9_findInHeap_61 ?_
              refine xr_iload3 dX9_findInHeap_63 rfl ?_
              refine xr_imul dX9_findInHeap_64 ?_
              refine xr_iload dX9_findInHeap_65 rfl ?_
              refine xr_iadd dX9_findInHeap_67 ?_
              refine xr_iald _ dX9_findInHeap_68 lay_89 (by (try simp only [k_0, k_1, k_2, k_3, k_4, k_5, k_8, k_16, k_34, k_40, k_200, k_201, k_256, k_512, nI_add, pk_mul]); first | done | rfl) (by omega) (by decide) ?_
              show xT _ _ _ 69 _ _ _ _
              refine xr_aload0 dX9_findInHeap_69 rfl ?_
              refine xr_getR dX9_findInHeap_70 fk_9_29 lay_77 rfl ?_
              refine xr_bip bi_34 dX9_findInHeap_73 ?_
              refine xr_iload1 dX9_findInHeap_75 rfl ?_
              refine xr_imul dX9_findInHeap_76 ?_
              refine xr_iload dX9_findInHeap_77 rfl ?_
              refine xr_iadd dX9_findInHeap_79 ?_
              refine xr_iald _ dX9_findInHeap_80 lay_83 (by (try simp only [k_0, k_1, k_2, k_3, k_4, k_5, k_8, k_16, k_34, k_40, k_200, k_201, k_256, k_512, nI_add, pk_mul]); first | done | rfl) (by omega) (by decide) ?_
              show xT _ _ _ 81 _ _ _ _
              refine xr_icmp_ne 88 dX9_findInHeap_81 (by decide) (fun hne => ?_) (fun hne => ?_)
              · skip
                refine xr_ic0 dX9_findInHeap_88 ?_
                exact J89 false ⟨fun q => (by cases q), fun q => absurd q hne⟩
              · skip
                refine xr_ic1 dX9_findInHeap_84 ?_
                refine xr_goto 89 dX9_findInHeap_85 (by decide) ?_
                exact J89 true ⟨fun _ => hne, fun _ => rfl⟩
        refine xr_icmp_ne 35 dX9_findInHeap_28 (by decide) (fun hsz => ?_) (fun hsz => ?_)
        · skip
          refine xr_ic0 dX9_findInHeap_35 ?_
          refine xr_istore dX9_findInHeap_36 (Nat.le_of_ble_eq_true rfl) ?_
          show xT _ _ _ 38 [_, _, _, _, _, _] _ _ _
          refine xr_ic0 dX9_findInHeap_38 ?_
          refine xr_istore dX9_findInHeap_39 (Nat.le_of_ble_eq_true rfl) ?_
          show xT _ _ _ 41 [_, _, _, _, _, _] _ _ _
          exact L2 0 (Nat.zero_le _) false (fun q => by cases q) (fun _ e => hsz (by rw [e]))
        · skip
          refine xr_ic1 dX9_findInHeap_31 ?_
          refine xr_goto 36 dX9_findInHeap_32 (by decide) ?_
          refine xr_istore dX9_findInHeap_36 (Nat.le_of_ble_eq_true rfl) ?_
          show xT _ _ _ 38 [_, _, _, _, _, _] _ _ _
          refine xr_ic0 dX9_findInHeap_38 ?_
          refine xr_istore dX9_findInHeap_39 (Nat.le_of_ble_eq_true rfl) ?_
          show xT _ _ _ 41 [_, _, _, _, _, _] _ _ _
          exact L2 0 (Nat.zero_le _) true (fun _ => ⟨(nI_eq (by omega) (by omega)).mp hsz, fun k hk => by omega⟩) (fun q => by cases q)
  refine x_ent (by decide) (Nat.le_of_ble_eq_true rfl) rfl ?_
  show xT _ _ _ 0 [_, _, _, _, _, _] _ _ _
  refine xr_icm1 dX9_findInHeap_0 ?_
  refine xr_istore2 dX9_findInHeap_1 (Nat.le_of_ble_eq_true rfl) ?_
  show xT _ _ _ 2 [_, _, _, _, _, _] _ _ _
  refine xr_ic0 dX9_findInHeap_2 ?_
  refine xr_istore3 dX9_findInHeap_3 (Nat.le_of_ble_eq_true rfl) ?_
  show xT _ _ _ 4 [_, _, _, _, _, _] _ _ _
  exact L 0 (Nat.zero_le _) none _ _ (fun j q => by cases q) (fun _ j hj q => by omega)
/-- a word comes to the heap, if it isn't there and there is room -/
def hTo (hs : List (List Nat)) (ws : List Nat) (hs' : List (List Nat)) (o : Option Nat) : Prop := (∃ j, o = some j ∧ (∃ h : j < hs.length, hs[j] = ws) ∧ hs' = hs) ∨ (ws ∉ hs ∧ hs.length ≤ 200 ∧ o = some hs.length ∧ hs' = hs ++ [ws]) ∨ (ws ∉ hs ∧ 200 < hs.length ∧ o = none ∧ hs' = hs)
theorem c9_toHeap {hs : List (List Nat)} {w : Nat} {ws : List Nat} (hH : mHp I hs) (hm16 : ∀ a ∈ hs, ∀ m ∈ a, m < 16) (hw : w < 12) (hW : mWd I w ws) (hl : ws.length ≤ 16) (hws : ∀ m ∈ ws, m < 16) : xCon G M_X9_toHeap [.ref (G.1 77), .int (nI w)] I J (xpi fun v I' J' => (∃ o hs', v = oI o ∧ hTo hs ws hs' o ∧ mHp I' hs') ∧ mfx [89, 90] [21] I I' ∧ J = J') := by
  obtain ⟨w84, w83⟩ := id hW
  refine x_ent (by decide) (Nat.le_of_ble_eq_true rfl) rfl ?_
  show xT _ _ _ 0 [_, _, _, _] _ _ _
  refine xr_aload0 dX9_toHeap_0 rfl ?_
  refine xr_iload1 dX9_toHeap_1 rfl ?_
  refine xr_cVi [_] dX9_toHeap_2 (xcv_of cf_X9_findInHeap ml_9_181 (by decide)) rfl lay_77 rfl rfl rfl (Nat.le_of_ble_eq_true rfl) (c9_findInHeap hH hm16 hw hW hl hws) (fun v I1 J1 hc => ?_)
  obtain ⟨⟨o, rfl, ho⟩, rfl, rfl⟩ := hc
  refine xr_istore2 dX9_toHeap_5 (Nat.le_of_ble_eq_true rfl) ?_
  show xT _ _ _ 6 [_, _, _, _] _ _ _
  refine xr_iload2 dX9_toHeap_6 rfl ?_
  refine xr_if_ge 87 dX9_toHeap_7 (by decide) (fun hge => ?_) (fun hge => ?_)
  · skip
    refine xr_iload2 dX9_toHeap_87 rfl ?_
    cases o with
    | none => exact absurd hge (by decide)
    | some j =>
      refine xr_iret dX9_toHeap_88 rfl rfl ⟨⟨some j, hs, rfl, Or.inl ⟨j, rfl, ho, rfl⟩, hH⟩, mfx.rf, rfl⟩
  · have hnone : o = none := by
      cases o with
      | none => rfl
      | some j =>
        obtain ⟨hj, -⟩ := ho
        exact absurd (nI_pos' (by have := hH.2.1; omega)) hge
    subst hnone
    have h201 := hH.2.1
    refine xr_aload0 dX9_toHeap_10 rfl ?_
    refine xr_getIv dX9_toHeap_11 fk_9_178 lay_77 rfl hH.1 ?_
    refine xr_sip si_200 dX9_toHeap_14 ?_
    refine xr_icmp_gt 87 dX9_toHeap_17 (by decide) (fun hgt => ?_) (fun hgt => ?_)
    · have hgt : 200 < hs.length := nltl (a := 200) hgt
      refine xr_iload2 dX9_toHeap_87 rfl ?_
      refine xr_iret dX9_toHeap_88 rfl rfl ⟨⟨none, hs, rfl, Or.inr (Or.inr ⟨ho, hgt, rfl, rfl⟩), hH⟩, mfx.rf, rfl⟩
    · have hgt : hs.length ≤ 200 := nnlt (a := 200) hgt
      have L : ∀ i, i ≤ ws.length → ∀ I1, mfx [89, 90] [21] I I1 → I1 77 21 = nI hs.length → I1 90 = upd (I 90) hs.length (nI ws.length) → (∀ k, k < 16 * hs.length → I1 89 k = I 89 k) → (∀ k (hk : k < ws.length), k < i → I1 89 (16 * hs.length + k) = tok ws[k]) → xT G M_X9_toHeap (xMQ G (xpi fun v I' J' => (∃ o hs', v = oI o ∧ hTo hs ws hs' o ∧ mHp I' hs') ∧ mfx [89, 90] [21] I I' ∧ J = J')) 39 [some (.ref (G.1 77)), some (.int (nI w)), some (.int (nI hs.length)), some (.int (nI i))] [] I1 J := by
        refine x_for (fun i hi IH I1 f1 g21 g90 glo gnew => ?_)
        have g84 : I1 84 w = nI ws.length := by rw [f1.1 84 (by decide) (by decide)]; exact w84
        refine xr_iload3 dX9_toHeap_39 rfl ?_
        refine xr_aload0 dX9_toHeap_40 rfl ?_
        refine xr_getR dX9_toHeap_41 fk_9_32 lay_77 rfl ?_
        refine xr_iload1 dX9_toHeap_44 rfl ?_
        refine xr_ialdv _ dX9_toHeap_45 lay_84 rfl hw (by decide) g84 ?_
        refine xr_icmp_ge 77 dX9_toHeap_46 (by decide) (fun hc2 => ?_) (fun hc2 => ?_)
        · have : i = ws.length := by have := nle hc2; omega
          subst this
          refine xr_aload0 dX9_toHeap_77 rfl ?_
          refine xr_dup dX9_toHeap_78 rfl ?_
          refine xr_getIv dX9_toHeap_79 fk_9_178 lay_77 rfl g21 ?_
          refine xr_ic1 dX9_toHeap_82 ?_
          refine xr_iadd dX9_toHeap_83 ?_
          refine xr_putI dX9_toHeap_84 fp_9_178 lay_77 rfl ?_
          refine xr_iload2 dX9_toHeap_87 rfl ?_
          rw [k_1, nI_add]
          refine xr_iret dX9_toHeap_88 rfl rfl ⟨⟨some hs.length, hs ++ [ws], rfl, Or.inr (Or.inl ⟨ho, hgt, rfl, rfl⟩), ?_, ?_, fun h hh => ?_⟩, f1.up7 _ (by decide), rfl⟩
          · rw [up_same, upd_same]; simp
          · simp; omega
          · rw [va_up_ne _ _ (by decide), va_up_ne _ _ (by decide), g90]
            by_cases e : h < hs.length
            · rw [List.getElem_append_left e, upd_ne _ _ (by omega)]
              obtain ⟨q1, q2, q3⟩ := hH.2.2 h e
              exact ⟨q1, q2, q3.cg (fun k hk => glo _ (by omega))⟩
            · have e : h = hs.length := by simp at hh; omega
              subst e
              simp only [List.getElem_concat_length]
              rw [upd_same]
              exact ⟨hl, rfl, fun k hk => gnew k hk hk⟩
        · have hil := nlt hc2
          have IH := IH hil
          have g83 : I1 83 (34 * w + i) = tok ws[i] := by rw [f1.1 83 (by decide) (by decide)]; exact w83 i hil
          refine xr_aload0 dX9_toHeap_49 rfl ?_
          refine xr_getR dX9_toHeap_50 fk_9_48 lay_77 rfl ?_
          refine xr_bip bi_16 dX9_toHeap_53 ?_
          refine xr_iload2 dX9_toHeap_55 rfl ?_
          refine xr_imul dX9_toHeap_56 ?_
          refine xr_iload3 dX9_toHeap_57 rfl ?_
          refine xr_iadd dX9_toHeap_58 ?_
          refine xr_aload0 dX9_toHeap_59 rfl ?_
          show xT _ _ _ 60 _ _ _ _
          refine xr_getR dX9_toHeap_60 fk_9_29 lay_77 rfl ?_
          refine xr_bip bi_34 dX9_toHeap_63 ?_
          refine xr_iload1 dX9_toHeap_65 rfl ?_
          refine xr_imul dX9_toHeap_66 ?_
          refine xr_iload3 dX9_toHeap_67 rfl ?_
          refine xr_iadd dX9_toHeap_68 ?_
          refine xr_ialdv _ dX9_toHeap_69 lay_83 (by (try simp only [k_0, k_1, k_2, k_3, k_4, k_5, k_8, k_16, k_34, k_40, k_200, k_201, k_256, k_512, nI_add, pk_mul]); first | done | rfl) (by omega) (by decide) g83 ?_
          refine xr_iast _ dX9_toHeap_70 lay_89 (by (try simp only [k_0, k_1, k_2, k_3, k_4, k_5, k_8, k_16, k_34, k_40, k_200, k_201, k_256, k_512, nI_add, pk_mul]); first | done | rfl) (by omega) (by decide) ?_
          show xT _ _ _ 71 _ _ _ _
          refine xr_iinc dX9_toHeap_71 rfl ii_1 (Nat.le_of_ble_eq_true rfl) ?_
          show xT _ _ _ 74 [_, _, _, _] _ _ _
          refine xr_goto 39 dX9_toHeap_74 (by decide) ?_
          rw [k_1, nI_add]
          refine IH _ (f1.up _ (by decide) (by decide)) (by rw [va_up_ne _ _ (by decide)]; exact g21) (by rw [va_up_ne _ _ (by decide)]; exact g90) (fun k hk => ?_) (fun k hk hki => ?_)
          · rw [up_same, upd_ne _ _ (by omega)]; exact glo k hk
          · rw [up_same]
            by_cases e : k = i
            · subst e; rw [upd_same]
            · rw [upd_ne _ _ (by omega)]; exact gnew k hk (by omega)
      refine xr_aload0 dX9_toHeap_20 rfl ?_
      refine xr_getIv dX9_toHeap_21 fk_9_178 lay_77 rfl hH.1 ?_
      refine xr_istore2 dX9_toHeap_24 (Nat.le_of_ble_eq_true rfl) ?_
      show xT _ _ _ 25 [_, _, _, _] _ _ _
      refine xr_aload0 dX9_toHeap_25 rfl ?_
      refine xr_getR dX9_toHeap_26 fk_9_51 lay_77 rfl ?_
      refine xr_iload2 dX9_toHeap_29 rfl ?_
      refine xr_aload0 dX9_toHeap_30 rfl ?_
      refine xr_getR dX9_toHeap_31 fk_9_32 lay_77 rfl ?_
      show xT _ _ _ 34 _ _ _ _
      refine xr_iload1 dX9_toHeap_34 rfl ?_
      refine xr_ialdv _ dX9_toHeap_35 lay_84 rfl hw (by decide) w84 ?_
      refine xr_iast _ dX9_toHeap_36 lay_90 rfl (by omega) (by decide) ?_
      refine xr_ic0 dX9_toHeap_37 ?_
      refine xr_istore3 dX9_toHeap_38 (Nat.le_of_ble_eq_true rfl) ?_
      show xT _ _ _ 39 [_, _, _, _] _ _ _
      exact L 0 (Nat.zero_le _) _ (mfx.rf.up _ (by decide) (by decide)) (by rw [va_up_ne _ _ (by decide)]; exact hH.1) (by rw [up_same]) (fun k hk => by rw [va_up_ne _ _ (by decide)]) (fun k hk q => by omega)
theorem c9_fromHeap {hs : List (List Nat)} {h to : Nat} (hH : mHp I hs) (hh : h < hs.length) (hto : to < 12) : xCon G M_X9_fromHeap [.ref (G.1 77), .int (nI h), .int (nI to)] I J (xpv fun I' J' => mWd I' to hs[h] ∧ mwx [to] I I' ∧ mfx [83, 84] [] I I' ∧ J = J') := by
  obtain ⟨g1, g2, g3⟩ := hH.2.2 h hh
  have h201 := hH.2.1
  generalize hs[h] = ws at g1 g2 g3
  have L : ∀ i, i ≤ ws.length → ∀ I1, mfx [83, 84] [] I I1 → mwx [to] I I1 → I1 84 to = nI ws.length → (∀ k (hk : k < ws.length), k < i → I1 83 (34 * to + k) = tok ws[k]) → xT G M_X9_fromHeap (xMQ G (xpv fun I' J' => mWd I' to ws ∧ mwx [to] I I' ∧ mfx [83, 84] [] I I' ∧ J = J')) 14 [some (.ref (G.1 77)), some (.int (nI h)), some (.int (nI to)), some (.int (nI i))] [] I1 J := by
    refine x_for (fun i hi IH I1 f1 x1 a1 a4 => ?_)
    refine xr_iload3 dX9_fromHeap_14 rfl ?_
    refine xr_aload0 dX9_fromHeap_15 rfl ?_
    refine xr_getR dX9_fromHeap_16 fk_9_51 lay_77 rfl ?_
    refine xr_iload1 dX9_fromHeap_19 rfl ?_
    refine xr_ialdv _ dX9_fromHeap_20 lay_90 rfl (by omega) (by decide) (show _ = nI ws.length by rw [f1.1 90 (by decide) (by decide)]; exact g2) ?_
    refine xr_icmp_ge 52 dX9_fromHeap_21 (by decide) (fun hc => ?_) (fun hc => ?_)
    · have : i = ws.length := by have := nle hc; omega
      refine xr_vret dX9_fromHeap_52 rfl rfl ⟨⟨a1, fun k hk => a4 k hk (by omega)⟩, x1, f1, rfl⟩
    · have hil := nlt hc
      have IH := IH hil
      refine xr_aload0 dX9_fromHeap_24 rfl ?_
      refine xr_getR dX9_fromHeap_25 fk_9_29 lay_77 rfl ?_
      refine xr_bip bi_34 dX9_fromHeap_28 ?_
      refine xr_iload2 dX9_fromHeap_30 rfl ?_
      refine xr_imul dX9_fromHeap_31 ?_
      refine xr_iload3 dX9_fromHeap_32 rfl ?_
      refine xr_iadd dX9_fromHeap_33 ?_
      refine xr_aload0 dX9_fromHeap_34 rfl ?_
      show xT _ _ _ 35 _ _ _ _
      refine xr_getR dX9_fromHeap_35 fk_9_48 lay_77 rfl ?_
      refine xr_bip bi_16 dX9_fromHeap_38 ?_
      refine xr_iload1 dX9_fromHeap_40 rfl ?_
      refine xr_imul dX9_fromHeap_41 ?_
      refine xr_iload3 dX9_fromHeap_42 rfl ?_
      refine xr_iadd dX9_fromHeap_43 ?_
      refine xr_ialdv _ dX9_fromHeap_44 lay_89 (by (try simp only [k_0, k_1, k_2, k_3, k_4, k_5, k_8, k_16, k_34, k_40, k_200, k_201, k_256, k_512, nI_add, pk_mul]); first | done | rfl) (by omega) (by decide) (show _ = tok ws[i] by rw [f1.1 89 (by decide) (by decide)]; exact g3 i hil) ?_
      refine xr_iast _ dX9_fromHeap_45 lay_83 (by (try simp only [k_0, k_1, k_2, k_3, k_4, k_5, k_8, k_16, k_34, k_40, k_200, k_201, k_256, k_512, nI_add, pk_mul]); first | done | rfl) (by omega) (by decide) ?_
      show xT _ _ _ 46 _ _ _ _
      refine xr_iinc dX9_fromHeap_46 rfl ii_1 (Nat.le_of_ble_eq_true rfl) ?_
      show xT _ _ _ 49 [_, _, _, _] _ _ _
      refine xr_goto 14 dX9_fromHeap_49 (by decide) ?_
      rw [k_1, nI_add]
      refine IH _ (f1.up _ (by decide) (by decide)) (fun v hv hvw => ?_) (by rw [va_up_ne _ _ (by decide)]; exact a1) (fun k hk hki => ?_)
      · have hvw' : v ≠ to := fun q => hvw (by rw [q]; exact List.mem_singleton.mpr rfl)
        refine ⟨by rw [va_up_ne _ _ (by decide)]; exact (x1 v hv hvw).1, fun j hj => ?_⟩
        rw [up_same, upd_ne _ _ (by omega)]
        exact (x1 v hv hvw).2 j hj
      · rw [up_same]
        by_cases e : k = i
        · subst e; rw [upd_same]
        · rw [upd_ne _ _ (by omega)]; exact a4 k hk (by omega)
  refine x_ent (by decide) (Nat.le_of_ble_eq_true rfl) rfl ?_
  show xT _ _ _ 0 [_, _, _, _] _ _ _
  refine xr_aload0 dX9_fromHeap_0 rfl ?_
  refine xr_getR dX9_fromHeap_1 fk_9_32 lay_77 rfl ?_
  refine xr_iload2 dX9_fromHeap_4 rfl ?_
  refine xr_aload0 dX9_fromHeap_5 rfl ?_
  refine xr_getR dX9_fromHeap_6 fk_9_51 lay_77 rfl ?_
  refine xr_iload1 dX9_fromHeap_9 rfl ?_
  refine xr_ialdv _ dX9_fromHeap_10 lay_90 rfl (by omega) (by decide) g2 ?_
  refine xr_iast _ dX9_fromHeap_11 lay_84 rfl hto (by decide) ?_
  show xT _ _ _ 12 _ _ _ _
  refine xr_ic0 dX9_fromHeap_12 ?_
  refine xr_istore3 dX9_fromHeap_13 (Nat.le_of_ble_eq_true rfl) ?_
  show xT _ _ _ 14 [_, _, _, _] _ _ _
  refine L 0 (by omega) _ (mfx.rf.up _ (by decide) (by decide)) (fun v hv hvw => ?_) (by rw [up_same, upd_same]) (fun k hk h => by omega)
  have hvw' : v ≠ to := fun q => hvw (by rw [q]; exact List.mem_singleton.mpr rfl)
  rw [up_same, upd_ne _ _ hvw', va_up_ne _ _ (by decide)]
  exact ⟨rfl, fun _ _ => rfl⟩
theorem c9_beginHeap : xCon G M_X9_beginHeap [.ref (G.1 77)] I J (xpv fun I' J' => mHp I' [] ∧ I' 77 22 = 0 ∧ mfx [] [21, 22] I I' ∧ J = J') := by
  refine x_ent (by decide) (Nat.le_of_ble_eq_true rfl) rfl ?_
  show xT _ _ _ 0 [_] _ _ _
  refine xr_aload0 dX9_beginHeap_0 rfl ?_
  refine xr_ic0 dX9_beginHeap_1 ?_
  refine xr_putI dX9_beginHeap_2 fp_9_178 lay_77 rfl ?_
  refine xr_aload0 dX9_beginHeap_5 rfl ?_
  refine xr_ic0 dX9_beginHeap_6 ?_
  refine xr_putI dX9_beginHeap_7 fp_9_185 lay_77 rfl ?_
  refine xr_vret dX9_beginHeap_10 rfl rfl ⟨⟨?_, by simp, fun h hh => by simp at hh⟩, ?_, (mfx.rf.up7 _ (by decide)).up7 _ (by decide), rfl⟩
  · rw [up_same, upd_ne _ _ (by decide), up_same, upd_same]; rfl
  · rw [up_same, upd_same]
end M14
