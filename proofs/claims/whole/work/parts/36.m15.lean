section M15
variable {G : xG} {I : xI} {J : xJ}
theorem c9_grow {M : xMac} (h : mMach I M) (hwh : mWhole M) {hs : List (List Nat)} {d : Nat} (hH : mHp I hs) (hg : hGood M hs) (hd : d ≤ hs.length) (h22 : I 77 22 = nI d) (hmd : mHd I M hs d) : xCon G M_X9_grow [.ref (G.1 77)] I J (xpi fun v I' J' => (∃ hs', v = b2 (decide (hs'.length ≤ 200)) ∧ mHp I' hs' ∧ hGood M hs' ∧ hExt M hs hs' ∧ (hs'.length ≤ 200 → mHd I' M hs' hs'.length ∧ I' 77 22 = nI hs'.length)) ∧ mwx [9, 10] I I' ∧ mfx [83, 84, 89, 90, 91, 92] [13, 14, 21, 22] I I' ∧ J = J') := by
  have hN8 := h.1.2.2.1
  have hK4 := h.1.2.1
  have L : ∀ n d (hs1 : List (List Nat)) I1 (z1 : Option Value), n = 202 - d → d ≤ hs1.length → mfx [83, 84, 89, 90, 91, 92] [13, 14, 21, 22] I I1 → mwx [9, 10] I I1 → mHp I1 hs1 → hGood M hs1 → hExt M hs hs1 → I1 77 22 = nI d → (hs1.length ≤ 200 → mHd I1 M hs1 d) → xT G M_X9_grow (xMQ G (xpi fun v I' J' => (∃ hs', v = b2 (decide (hs'.length ≤ 200)) ∧ mHp I' hs' ∧ hGood M hs' ∧ hExt M hs hs' ∧ (hs'.length ≤ 200 → mHd I' M hs' hs'.length ∧ I' 77 22 = nI hs'.length)) ∧ mwx [9, 10] I I' ∧ mfx [83, 84, 89, 90, 91, 92] [13, 14, 21, 22] I I' ∧ J = J')) 0 [some (.ref (G.1 77)), z1] [] I1 J := by
    intro n
    induction n using x_lt with
    | h n IH =>
    intro d hs1 I1 z1 hn hd f1 x1 H1 g1 e1 h22 hmd
    have h201 := H1.2.1
    have fin : (hs1.length ≤ 200 → d = hs1.length) → xT G M_X9_grow (xMQ G (xpi fun v I' J' => (∃ hs', v = b2 (decide (hs'.length ≤ 200)) ∧ mHp I' hs' ∧ hGood M hs' ∧ hExt M hs hs' ∧ (hs'.length ≤ 200 → mHd I' M hs' hs'.length ∧ I' 77 22 = nI hs'.length)) ∧ mwx [9, 10] I I' ∧ mfx [83, 84, 89, 90, 91, 92] [13, 14, 21, 22] I I' ∧ J = J')) 101 [some (.ref (G.1 77)), z1] [] I1 J := by
      intro hfin
      refine xr_aload0 dX9_grow_101 rfl ?_
      refine xr_getIv dX9_grow_102 fk_9_178 lay_77 rfl H1.1 ?_
      refine xr_sip si_200 dX9_grow_105 ?_
      refine xr_icmp_gt 115 dX9_grow_108 (by decide) (fun hgt => ?_) (fun hgt => ?_)
      · have hgt : 200 < hs1.length := nltl (a := 200) hgt
        refine xr_ic0 dX9_grow_115 ?_
        refine xr_zret dX9_grow_116 rfl rfl (by simp) ⟨⟨hs1, by rw [decide_eq_false (by omega)]; rfl, H1, g1, e1, fun q => by omega⟩, x1, f1, rfl⟩
      · have hgt : hs1.length ≤ 200 := nnlt (a := 200) hgt
        refine xr_ic1 dX9_grow_111 ?_
        refine xr_goto 116 dX9_grow_112 (by decide) ?_
        have hdd := hfin hgt
        refine xr_zret dX9_grow_116 rfl rfl (by simp) ⟨⟨hs1, by rw [decide_eq_true hgt]; rfl, H1, g1, e1, fun _ => by rw [← hdd]; exact ⟨hmd hgt, h22⟩⟩, x1, f1, rfl⟩
    refine xr_aload0 dX9_grow_0 rfl ?_
    refine xr_getIv dX9_grow_1 fk_9_185 lay_77 rfl h22 ?_
    refine xr_aload0 dX9_grow_4 rfl ?_
    refine xr_getIv dX9_grow_5 fk_9_178 lay_77 rfl H1.1 ?_
    refine xr_icmp_ge 101 dX9_grow_8 (by decide) (fun hc => ?_) (fun hc => ?_)
    · have hc := nle hc
      exact fin (fun _ => by omega)
    · have hdl := nlt hc
      refine xr_aload0 dX9_grow_11 rfl ?_
      refine xr_getIv dX9_grow_12 fk_9_178 lay_77 rfl H1.1 ?_
      refine xr_sip si_200 dX9_grow_15 ?_
      refine xr_icmp_gt 101 dX9_grow_18 (by decide) (fun hgt => ?_) (fun hgt => ?_)
      · have hgt : 200 < hs1.length := nltl (a := 200) hgt
        exact fin (fun q => by omega)
      · have hgt : hs1.length ≤ 200 := nnlt (a := 200) hgt
        have hmd := hmd hgt
        obtain ⟨wl, wr, wo⟩ := g1.2 _ (List.getElem_mem hdl)
        refine xr_aload0 dX9_grow_21 rfl ?_
        refine xr_aload0 dX9_grow_22 rfl ?_
        refine xr_getIv dX9_grow_23 fk_9_185 lay_77 rfl h22 ?_
        refine xr_bip bi_9 dX9_grow_26 ?_
        refine xr_cVv [_, _] dX9_grow_28 (xcv_of cf_X9_fromHeap ml_9_188 (by decide)) rfl lay_77 rfl rfl rfl (Nat.le_of_ble_eq_true rfl) (c9_fromHeap H1 hdl (by decide)) (fun I2 J2 hc2 => ?_)
        obtain ⟨d2, x2, f2, rfl⟩ := hc2
        refine xr_ic0 dX9_grow_31 ?_
        refine xr_istore1 dX9_grow_32 (Nat.le_of_ble_eq_true rfl) ?_
        show xT _ _ _ 33 [_, _] _ _ _
        have L2 : ∀ x, x ≤ mK M → ∀ (hs3 : List (List Nat)) I3, mfx [83, 84, 89, 90, 91, 92] [13, 14, 21, 22] I I3 → mwx [9, 10] I I3 → mHp I3 hs3 → hGood M hs3 → hExt M hs1 hs3 → I3 77 22 = nI d → mWd I3 9 hs1[d] → (hs3.length ≤ 200 → mHd I3 M hs3 d ∧ ∀ x', x' < x → I3 91 (4 * d + x') = nI (wout M hs1[d] x') ∧ ∃ j, I3 92 (4 * d + x') = nI j ∧ hs3[j]? = some (wpart M hs1[d] x')) → xT G M_X9_grow (xMQ G (xpi fun v I' J' => (∃ hs', v = b2 (decide (hs'.length ≤ 200)) ∧ mHp I' hs' ∧ hGood M hs' ∧ hExt M hs hs' ∧ (hs'.length ≤ 200 → mHd I' M hs' hs'.length ∧ I' 77 22 = nI hs'.length)) ∧ mwx [9, 10] I I' ∧ mfx [83, 84, 89, 90, 91, 92] [13, 14, 21, 22] I I' ∧ J = J')) 33 [some (.ref (G.1 77)), some (.int (nI x))] [] I3 J := by
          refine x_for (fun x hx IH2 hs3 I3 f3 x3 H3 g3 e3 h322 d3 hv3 => ?_)
          have hK3 : I3 77 3 = nI (mK M) := (f3.2 3 (by decide)).trans h.2.1
          have hl3 := e3.len
          have h3201 := H3.2.1
          refine xr_iload1 dX9_grow_33 rfl ?_
          refine xr_aload0 dX9_grow_34 rfl ?_
          refine xr_getIv dX9_grow_35 fk_9_19 lay_77 rfl hK3 ?_
          refine xr_icmp_ge 88 dX9_grow_38 (by decide) (fun hc3 => ?_) (fun hc3 => ?_)
          · have : x = mK M := by have := nle hc3; omega
            subst this
            refine xr_aload0 dX9_grow_88 rfl ?_
            refine xr_dup dX9_grow_89 rfl ?_
            refine xr_getIv dX9_grow_90 fk_9_185 lay_77 rfl h322 ?_
            refine xr_ic1 dX9_grow_93 ?_
            refine xr_iadd dX9_grow_94 ?_
            refine xr_putI dX9_grow_95 fp_9_185 lay_77 rfl ?_
            refine xr_goto 0 dX9_grow_98 (by decide) ?_
            rw [k_1, nI_add]
            refine IH (202 - (d + 1)) (by omega) (d + 1) hs3 _ _ rfl (by omega) (f3.up7 _ (by decide)) (x3.tr (mwx.of (by rw [va_up_ne _ _ (by decide)]) (by rw [va_up_ne _ _ (by decide)]))) (H3.cg (by rw [up_same, upd_ne _ _ (by decide)]) (by rw [va_up_ne _ _ (by decide)]) (by rw [va_up_ne _ _ (by decide)])) g3 (e1.tr e3) (by rw [up_same, upd_same]) (fun q => ?_)
            intro k hk hkd y hy
            rw [va_up_ne _ _ (by decide), va_up_ne _ _ (by decide)]
            by_cases ek : k = d
            · subst ek
              have hat : hs3[k] = hs1[k] := by
                have := e3.at (List.getElem?_eq_getElem hdl)
                rw [List.getElem?_eq_getElem hk] at this
                exact Option.some.inj this
              rw [hat]
              exact (hv3 q).2 y hy
            · exact (hv3 q).1 k hk (by omega) y hy
          · have hxK := nlt hc3
            have IH2 := IH2 hxK
            refine xr_aload0 dX9_grow_41 rfl ?_
            refine xr_getR dX9_grow_42 fk_9_54 lay_77 rfl ?_
            refine xr_ic4 dX9_grow_45 ?_
            refine xr_aload0 dX9_grow_46 rfl ?_
            refine xr_getIv dX9_grow_47 fk_9_185 lay_77 rfl h322 ?_
            refine xr_imul dX9_grow_50 ?_
            refine xr_iload1 dX9_grow_51 rfl ?_
            refine xr_iadd dX9_grow_52 ?_
            show xT _ _ _ 53 _ _ _ _
            refine xr_aload0 dX9_grow_53 rfl ?_
            refine xr_bip bi_9 dX9_grow_54 ?_
            refine xr_iload1 dX9_grow_56 rfl ?_
            refine xr_bip bi_10 dX9_grow_57 ?_
            refine xr_cVi [_, _, _] dX9_grow_59 (xcv_of cf_X9_partAt ml_9_171 (by decide)) rfl lay_77 rfl rfl rfl (Nat.le_of_ble_eq_true rfl) (c9_partAt (w := 9) (to := 10) (f3.mach h (by decide) (by decide)) hwh (by decide) (by decide) (by decide) hxK d3 wo (by omega)) (fun v I4 J4 hc4 => ?_)
            obtain ⟨rfl, d4, x4, f4, rfl⟩ := hc4
            obtain ⟨p1, p2, p3⟩ := wpart_good h.1 hwh wo hxK
            have f34 := f3.tr (f4.mono (A' := [83, 84, 89, 90, 91, 92]) (T' := [13, 14, 21, 22]) (by simp) (by simp))
            refine xr_iast _ dX9_grow_62 lay_91 (by (try simp only [k_0, k_1, k_2, k_3, k_4, k_5, k_8, k_16, k_34, k_40, k_200, k_201, k_256, k_512, nI_add, pk_mul]); first | done | rfl) (by omega) (by decide) ?_
            generalize hI5 : va_up I4 91 (upd (I4 91) (4 * d + x) (nI (wout M hs1[d] x))) = I5
            have f5 : mfx [83, 84, 89, 90, 91, 92] [13, 14, 21, 22] I I5 := by rw [← hI5]; exact f34.up _ (by decide) (by decide)
            have H5 : mHp I5 hs3 := by rw [← hI5]; exact (f4.hp H3 (by decide) (by decide)).cg (by rw [va_up_ne _ _ (by decide)]) (by rw [va_up_ne _ _ (by decide)]) (by rw [va_up_ne _ _ (by decide)])
            have d5 : mWd I5 10 (wpart M hs1[d] x) := by rw [← hI5]; exact ⟨by rw [va_up_ne _ _ (by decide)]; exact d4.1, by rw [va_up_ne _ _ (by decide)]; exact d4.2⟩
            have h522 : I5 77 22 = nI d := by rw [← hI5, va_up_ne _ _ (by decide), f4.2 22 (by decide)]; exact h322
            have x5 : mwx [10] I3 I5 := by rw [← hI5]; exact x4.tr (mwx.of (by rw [va_up_ne _ _ (by decide)]) (by rw [va_up_ne _ _ (by decide)]))
            refine xr_aload0 dX9_grow_63 rfl ?_
            refine xr_getR dX9_grow_64 fk_9_57 lay_77 rfl ?_
            refine xr_ic4 dX9_grow_67 ?_
            refine xr_aload0 dX9_grow_68 rfl ?_
            refine xr_getIv dX9_grow_69 fk_9_185 lay_77 rfl h522 ?_
            refine xr_imul dX9_grow_72 ?_
            refine xr_iload1 dX9_grow_73 rfl ?_
            refine xr_iadd dX9_grow_74 ?_
            show xT _ _ _ 75 _ _ _ _
            refine xr_aload0 dX9_grow_75 rfl ?_
            refine xr_bip bi_10 dX9_grow_76 ?_
            refine xr_cVi [_] dX9_grow_78 (xcv_of cf_X9_toHeap ml_9_191 (by decide)) rfl lay_77 rfl rfl rfl (Nat.le_of_ble_eq_true rfl) (c9_toHeap H5 (g3.lt hN8) (by decide) d5 (by omega) (fun m hm => p1.lt hN8 hm)) (fun v I6 J6 hc6 => ?_)
            obtain ⟨⟨o, hs6, rfl, hto, H6⟩, f6, rfl⟩ := hc6
            have f56 := f5.tr (f6.mono (A' := [83, 84, 89, 90, 91, 92]) (T' := [13, 14, 21, 22]) (by simp) (by simp))
            have e6 : hExt M hs3 hs6 := hto.ext (fun P hP hs => hs _ x (hP _ (List.mem_of_getElem? (e3.at (List.getElem?_eq_getElem hdl)))) hxK)
            have g6 : hGood M hs6 := hto.good g3 ⟨by omega, p2, p1⟩
            have x6 : mwx [9, 10] I I6 := (x3.tr (x5.mono (by simp))).tr (mwx.of (f6.1 83 (by decide) (by decide)) (f6.1 84 (by decide) (by decide)))
            refine xr_iast _ dX9_grow_81 lay_92 (by (try simp only [k_0, k_1, k_2, k_3, k_4, k_5, k_8, k_16, k_34, k_40, k_200, k_201, k_256, k_512, nI_add, pk_mul]); first | done | rfl) (by omega) (by decide) ?_
            refine xr_iinc dX9_grow_82 rfl ii_1 (Nat.le_of_ble_eq_true rfl) ?_
            show xT _ _ _ 85 [_, _] _ _ _
            refine xr_goto 33 dX9_grow_85 (by decide) ?_
            simp only [k_4, k_1, pk_mul, nI_add]
            refine IH2 hs6 _ (f56.up _ (by decide) (by decide)) (x6.tr (mwx.of (by rw [va_up_ne _ _ (by decide)]) (by rw [va_up_ne _ _ (by decide)]))) (H6.cg (by rw [va_up_ne _ _ (by decide)]) (by rw [va_up_ne _ _ (by decide)]) (by rw [va_up_ne _ _ (by decide)])) g6 (e3.tr e6) (by rw [va_up_ne _ _ (by decide), f6.2 22 (by decide)]; exact h522) ?_ (fun q => ?_)
            · refine ⟨?_, ?_⟩
              · rw [va_up_ne _ _ (by decide), f6.1 84 (by decide) (by decide), (x5 9 (by decide) (by decide)).1]; exact d3.1
              · intro k hk
                rw [va_up_ne _ _ (by decide), f6.1 83 (by decide) (by decide), (x5 9 (by decide) (by decide)).2 k (by omega)]; exact d3.2 k hk
            · have hl6 := e6.len
              obtain ⟨m1, m2⟩ := hv3 (by omega)
              obtain ⟨j, rfl, hj⟩ := hto.at q
              have r91 : ∀ k, (va_up I6 92 (upd (I6 92) (4 * d + x) (oI (some j)))) 91 k = if k = 4 * d + x then nI (wout M hs1[d] x) else I3 91 k := fun k => by
                rw [va_up_ne _ _ (by decide), f6.1 91 (by decide) (by decide), ← hI5, up_same]
                by_cases e : k = 4 * d + x
                · rw [if_pos e, e, upd_same]
                · rw [if_neg e, upd_ne _ _ e, f4.1 91 (by decide) (by decide)]
              have r92 : ∀ k, (va_up I6 92 (upd (I6 92) (4 * d + x) (oI (some j)))) 92 k = if k = 4 * d + x then nI j else I3 92 k := fun k => by
                rw [up_same]
                by_cases e : k = 4 * d + x
                · rw [if_pos e, e, upd_same]; rfl
                · rw [if_neg e, upd_ne _ _ e, f6.1 92 (by decide) (by decide), ← hI5, va_up_ne _ _ (by decide), f4.1 92 (by decide) (by decide)]
              refine ⟨fun k hk hkd y hy => ?_, fun y hy => ?_⟩
              · rw [r91, r92, if_neg (by omega), if_neg (by omega)]
                have hk3 : k < hs3.length := by omega
                have hat : hs6[k] = hs3[k] := by
                  have := e6.at (List.getElem?_eq_getElem hk3)
                  rw [List.getElem?_eq_getElem hk] at this
                  exact Option.some.inj this
                rw [hat]
                obtain ⟨q1, j', q2, q3⟩ := m1 k hk3 hkd y hy
                exact ⟨q1, j', q2, e6.at q3⟩
              · rw [r91, r92]
                by_cases ey : y = x
                · subst ey
                  rw [if_pos rfl, if_pos rfl]
                  exact ⟨rfl, j, rfl, hj⟩
                · rw [if_neg (by omega), if_neg (by omega)]
                  obtain ⟨q1, j', q2, q3⟩ := m2 y (by omega)
                  exact ⟨q1, j', q2, e6.at q3⟩
        refine L2 0 (Nat.zero_le _) hs1 I2 (f1.tr (f2.mono (by simp) (by simp))) (x1.tr (x2.mono (by simp))) (f2.hp H1 (by decide) (by decide)) g1 hExt.rf (by rw [f2.2 22 (by decide)]; exact h22) d2 (fun q => ⟨fun k hk hkd y hy => ?_, fun y hy => by omega⟩)
        rw [f2.1 91 (by decide) (by decide), f2.1 92 (by decide) (by decide)]
        exact hmd k hk hkd y hy
  refine x_ent (by decide) (Nat.le_of_ble_eq_true rfl) rfl ?_
  show xT _ _ _ 0 [_, _] _ _ _
  exact L (202 - d) d hs I _ rfl hd mfx.rf mwx.rf hH hg hExt.rf h22 (fun _ => hmd)
end M15
