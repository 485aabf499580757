section M04
variable {G : xG} {I : xI} {J : xJ}
theorem c9_isBack {M : xMac} (h : mMach I M) {s : Nat} (hs : s < 8) : xCon G M_X9_isBack [.ref (G.1 77), .int (nI s)] I J (xpi fun r I' J' => r = b2 (mB M s) ∧ (∃ f, I' = va_up I 85 f) ∧ J = J') := by
  have hM := h
  obtain ⟨⟨hK2, hK4, hN8, hok⟩, hK, hN, hwg⟩ := h
  have kK : ∀ f, va_up I 85 f 77 3 = nI (mK M) := fun f => by rw [va_up_ne _ _ (by decide)]; exact hK
  have kN : ∀ f, va_up I 85 f 77 4 = nI (mN M) := fun f => by rw [va_up_ne _ _ (by decide)]; exact hN
  have kG : ∀ f t x, t < mN M → x < mK M → va_up I 85 f 82 (4 * t + x) = oI (mGo M t x) := fun f t x h1 h2 => by rw [va_up_ne _ _ (by decide)]; exact (hwg t x h1 h2).2
  -- the last loop
  have L4 : ∀ (f : Nat → Int32) (c : Nat → Bool), (∀ t, t < 8 → f t = b2 (c t)) → ∀ t, t ≤ 8 → ∀ (b : Bool) (z : Option Value), (b = true ↔ ∀ t', t' < t → c t' = true → t' < mN M ∧ mFair M t') → ((∀ t', t' < 8 → c t' = true → t' < mN M ∧ mFair M t') ↔ mBack M s) → xT G M_X9_isBack (xMQ G (xpi fun r I' J' => r = b2 (mB M s) ∧ (∃ f, I' = va_up I 85 f) ∧ J = J')) 128 [some (.ref (G.1 77)), some (.int (nI s)), some (.int (b2 b)), some (.int (nI t)), z] [] (va_up I 85 f) J := by
    intro f c hf
    refine x_for (fun t ht IH b z hb hfin => ?_)
    refine xr_iload3 dX9_isBack_128 rfl ?_
    refine xr_bip bi_8 dX9_isBack_129 ?_
    rw [k_8]
    refine xr_icmp_ge 175 dX9_isBack_131 (by decide) (fun hc => ?_) (fun hc => ?_)
    · have : t = 8 := by have := nle hc; omega
      subst this
      refine xr_iload2 dX9_isBack_175 rfl ?_
      refine xr_zret dX9_isBack_176 rfl rfl (b2_01 _) ⟨b2_iff ((hb.trans hfin).trans mB_iff.symm), ⟨f, rfl⟩, rfl⟩
    · have ht8 := nlt hc
      have IH := IH ht8
      have J168 : ∀ b' : Bool, (b' = true ↔ (b = true ∧ (c t = true → t < mN M ∧ mFair M t))) → xT G M_X9_isBack (xMQ G (xpi fun r I' J' => r = b2 (mB M s) ∧ (∃ f, I' = va_up I 85 f) ∧ J = J')) 168 [some (.ref (G.1 77)), some (.int (nI s)), some (.int (b2 b)), some (.int (nI t)), z] [.int (b2 b')] (va_up I 85 f) J := by
        intro b' hb'
        refine xr_istore2 dX9_isBack_168 (Nat.le_of_ble_eq_true rfl) ?_
        show xT _ _ _ 169 [_, _, _, _, _] _ _ _
        refine xr_iinc dX9_isBack_169 rfl ii_1 (Nat.le_of_ble_eq_true rfl) ?_
        show xT _ _ _ 172 [_, _, _, _, _] _ _ _
        refine xr_goto 128 dX9_isBack_172 (by decide) ?_
        rw [k_1, nI_add]
        refine IH b' z (hb'.trans ⟨fun q t' h1 h2 => ?_, fun q => ⟨hb.mpr (fun t' h1 => q t' (by omega)), q t (by omega)⟩⟩) hfin
        by_cases e : t' = t
        · subst e; exact q.2 h2
        · exact hb.mp q.1 t' (by omega) h2
      refine xr_iload2 dX9_isBack_134 rfl ?_
      refine xr_if_eq 167 dX9_isBack_135 (by decide) (fun hb0 => ?_) (fun hb0 => ?_)
      · refine xr_ic0 dX9_isBack_167 ?_
        exact J168 false ⟨fun q => (by cases q), fun q => by rw [b2_0] at hb0; rw [hb0] at q; exact absurd q.1 (by decide)⟩
      · have hb1 : b = true := by
          cases b with
          | true => rfl
          | false => exact absurd rfl hb0
        refine xr_aload0 dX9_isBack_138 rfl ?_
        refine xr_getR dX9_isBack_139 fk_9_35 lay_77 rfl ?_
        refine xr_iload3 dX9_isBack_142 rfl ?_
        refine xr_zald _ dX9_isBack_143 lay_85 (by (try simp only [k_0, k_1, k_2, k_3, k_4, k_5, k_8, k_16, k_34, k_40, k_200, k_201, k_256, k_512, nI_add, pk_mul]); first | done | rfl) ht8 (by decide) ?_
        rw [up_same, hf t ht8]
        refine xr_if_eq 163 dX9_isBack_144 (by decide) (fun hct => ?_) (fun hct => ?_)
        · have hct := b2_0.mp hct
          refine xr_ic1 dX9_isBack_163 ?_
          refine xr_goto 168 dX9_isBack_164 (by decide) ?_
          exact J168 true ⟨fun _ => ⟨hb1, fun q => by rw [hct] at q; cases q⟩, fun _ => rfl⟩
        · have hct : c t = true := by
            cases hq : c t with
            | true => rfl
            | false => rw [hq] at hct; exact absurd rfl hct
          refine xr_iload3 dX9_isBack_147 rfl ?_
          refine xr_aload0 dX9_isBack_148 rfl ?_
          refine xr_getIv dX9_isBack_149 fk_9_116 lay_77 rfl (kN _) ?_
          refine xr_icmp_ge 167 dX9_isBack_152 (by decide) (fun hn => ?_) (fun hn => ?_)
          · have hn := nle hn
            refine xr_ic0 dX9_isBack_167 ?_
            exact J168 false ⟨fun q => (by cases q), fun q => by have := (q.2 hct).1; omega⟩
          · have hn := nlt hn
            refine xr_aload0 dX9_isBack_155 rfl ?_
            refine xr_iload3 dX9_isBack_156 rfl ?_
            refine xr_cVi [_] dX9_isBack_157 (xcv_of cf_X9_isFair ml_9_121 (by decide)) rfl lay_77 rfl rfl rfl (Nat.le_of_ble_eq_true rfl) (c9_isFair (hM.cg (by rw [va_up_ne _ _ (by decide)]) (by rw [va_up_ne _ _ (by decide)]) (by rw [va_up_ne _ _ (by decide)]) (by rw [va_up_ne _ _ (by decide)])) hn) (fun v I1 J1 hc1 => ?_)
            obtain ⟨rfl, rfl, rfl⟩ := hc1
            refine xr_if_eq 167 dX9_isBack_160 (by decide) (fun hfr => ?_) (fun hfr => ?_)
            · have hfr := b2_0.mp hfr
              refine xr_ic0 dX9_isBack_167 ?_
              exact J168 false ⟨fun q => (by cases q), fun q => by rw [mF_iff.mpr (q.2 hct).2] at hfr; cases hfr⟩
            · have hfr : mFair M t := by
                rw [← mF_iff]
                cases hq : mF M t with
                | true => rfl
                | false => rw [hq] at hfr; exact absurd rfl hfr
              refine xr_ic1 dX9_isBack_163 ?_
              refine xr_goto 168 dX9_isBack_164 (by decide) ?_
              exact J168 true ⟨fun _ => ⟨hb1, fun _ => ⟨hn, hfr⟩⟩, fun _ => rfl⟩
  -- the rounds
  have L3 : ∀ r, r ≤ 8 → ∀ (f : Nat → Int32) (c : Nat → Bool) (z1 z2 : Option Value), (∀ t, t < 8 → f t = b2 (c t)) → c s = true → (∀ S : Nat → Prop, S s → mCT M S → ∀ t, t < 8 → c t = true → S t) → (mCT M (fun t => t < 8 ∧ c t = true) ∨ r + 1 ≤ cnt c 8) → xT G M_X9_isBack (xMQ G (xpi fun r I' J' => r = b2 (mB M s) ∧ (∃ f, I' = va_up I 85 f) ∧ J = J')) 32 [some (.ref (G.1 77)), some (.int (nI s)), some (.int (nI r)), z1, z2] [] (va_up I 85 f) J := by
    refine x_for (fun r hr IH f c z1 z2 hf hcs hmin hcl => ?_)
    refine xr_iload2 dX9_isBack_32 rfl ?_
    refine xr_bip bi_8 dX9_isBack_33 ?_
    rw [k_8]
    refine xr_icmp_ge 124 dX9_isBack_35 (by decide) (fun hc => ?_) (fun hc => ?_)
    · have : r = 8 := by have := nle hc; omega
      subst this
      refine xr_ic1 dX9_isBack_124 ?_
      refine xr_istore2 dX9_isBack_125 (Nat.le_of_ble_eq_true rfl) ?_
      show xT _ _ _ 126 [_, _, _, _, _] _ _ _
      refine xr_ic0 dX9_isBack_126 ?_
      refine xr_istore3 dX9_isBack_127 (Nat.le_of_ble_eq_true rfl) ?_
      show xT _ _ _ 128 [_, _, _, _, _] _ _ _
      have hcl : mCT M (fun t => t < 8 ∧ c t = true) := hcl.resolve_right (fun q => by have := cnt_le c 8; omega)
      refine L4 f c hf 0 (by omega) true _ ⟨fun _ t' h => by omega, fun _ => rfl⟩ ⟨fun q => ⟨fun t => t < 8 ∧ c t = true, ⟨hs, hcs⟩, fun t ht => ⟨(q t ht.1 ht.2).1, (q t ht.1 ht.2).2, hcl t ht (q t ht.1 ht.2).1⟩⟩, fun q => ?_⟩
      obtain ⟨S, hS, hSc⟩ := q
      intro t ht hct
      have := hmin S hS (fun t ht _ => (hSc t ht).2.2) t ht hct
      exact ⟨(hSc t this).1, (hSc t this).2.1⟩
    · have hr8 := nlt hc
      have IH := IH hr8
      refine xr_ic0 dX9_isBack_38 ?_
      refine xr_istore3 dX9_isBack_39 (Nat.le_of_ble_eq_true rfl) ?_
      show xT _ _ _ 40 [_, _, _, _, _] _ _ _
      -- over the states
      have L2 : ∀ t, t ≤ 8 → ∀ (f' : Nat → Int32) (c' : Nat → Bool) (z2 : Option Value), (∀ t, t < 8 → f' t = b2 (c' t)) → (∀ t, t < 8 → c t = true → c' t = true) → (∀ S : Nat → Prop, (∀ t, t < 8 → c t = true → S t) → mCT M S → ∀ t, t < 8 → c' t = true → S t) → (∀ t', t' < t → c t' = true → t' < mN M → ∀ x, x < mK M → ∀ g, mGo M t' x = some g → c' g = true) → xT G M_X9_isBack (xMQ G (xpi fun r I' J' => r = b2 (mB M s) ∧ (∃ f, I' = va_up I 85 f) ∧ J = J')) 40 [some (.ref (G.1 77)), some (.int (nI s)), some (.int (nI r)), some (.int (nI t)), z2] [] (va_up I 85 f') J := by
        refine x_for (fun t ht IH2 f' c' z2 hf' hsub hmin' hdone => ?_)
        refine xr_iload3 dX9_isBack_40 rfl ?_
        refine xr_bip bi_8 dX9_isBack_41 ?_
        rw [k_8]
        refine xr_icmp_ge 118 dX9_isBack_43 (by decide) (fun hc2 => ?_) (fun hc2 => ?_)
        · have : t = 8 := by have := nle hc2; omega
          subst this
          refine xr_iinc dX9_isBack_118 rfl ii_1 (Nat.le_of_ble_eq_true rfl) ?_
          show xT _ _ _ 121 [_, _, _, _, _] _ _ _
          refine xr_goto 32 dX9_isBack_121 (by decide) ?_
          rw [k_1, nI_add]
          refine IH f' c' _ _ hf' (hsub s hs hcs) (fun S h1 h2 => hmin' S (hmin S h1 h2) h2) ?_
          by_cases hcc : mCT M (fun t => t < 8 ∧ c t = true)
          · left
            have same : ∀ t, t < 8 → c' t = true → c t = true := fun t h1 h2 => (hmin' _ (fun t h1 h2 => ⟨h1, h2⟩) hcc t h1 h2).2
            intro t h1 h2 x hx g hg
            obtain ⟨g1, g2⟩ := hcc t ⟨h1.1, same t h1.1 h1.2⟩ h2 x hx g hg
            exact ⟨g1, hsub g g1 g2⟩
          · right
            have h5 := hcl.resolve_left hcc
            unfold mCT at hcc
            refine Nat.lt_of_le_of_lt h5 ?_
            apply Classical.byContradiction
            intro hlt
            apply hcc
            intro t h1 h2 x hx g hg
            have hg8 := (hok t x h2 hx).2 g hg
            have hcg := hdone t h1.1 h1.2 h2 x hx g hg
            refine ⟨hg8, ?_⟩
            cases hq : c g with
            | true => rfl
            | false => exact absurd (cnt_lt (n := 8) hsub hg8 hq hcg) hlt
        · have ht8 := nlt hc2
          have IH2 := IH2 ht8
          refine xr_ic0 dX9_isBack_46 ?_
          refine xr_istore dX9_isBack_47 (Nat.le_of_ble_eq_true rfl) ?_
          show xT _ _ _ 49 [_, _, _, _, _] _ _ _
          have L1 : ∀ x, x ≤ mK M → ∀ (f' : Nat → Int32) (c' : Nat → Bool), (∀ t, t < 8 → f' t = b2 (c' t)) → (∀ t, t < 8 → c t = true → c' t = true) → (∀ S : Nat → Prop, (∀ t, t < 8 → c t = true → S t) → mCT M S → ∀ t, t < 8 → c' t = true → S t) → (∀ t', t' < t → c t' = true → t' < mN M → ∀ x, x < mK M → ∀ g, mGo M t' x = some g → c' g = true) → (c' t = true → t < mN M → ∀ x', x' < x → ∀ g, mGo M t x' = some g → c' g = true) → xT G M_X9_isBack (xMQ G (xpi fun r I' J' => r = b2 (mB M s) ∧ (∃ f, I' = va_up I 85 f) ∧ J = J')) 49 [some (.ref (G.1 77)), some (.int (nI s)), some (.int (nI r)), some (.int (nI t)), some (.int (nI x))] [] (va_up I 85 f') J := by
            refine x_for (fun x hx IH1 f' c' hf' hsub hmin' hdone hnow => ?_)
            refine xr_iload dX9_isBack_49 rfl ?_
            refine xr_aload0 dX9_isBack_51 rfl ?_
            refine xr_getIv dX9_isBack_52 fk_9_19 lay_77 rfl (kK _) ?_
            have out : (c' t = true → t < mN M → ∀ x', x' < mK M → ∀ g, mGo M t x' = some g → c' g = true) → xT G M_X9_isBack (xMQ G (xpi fun r I' J' => r = b2 (mB M s) ∧ (∃ f, I' = va_up I 85 f) ∧ J = J')) 112 [some (.ref (G.1 77)), some (.int (nI s)), some (.int (nI r)), some (.int (nI t)), some (.int (nI x))] [] (va_up I 85 f') J := by
              intro hall
              refine xr_iinc dX9_isBack_112 rfl ii_1 (Nat.le_of_ble_eq_true rfl) ?_
              show xT _ _ _ 115 [_, _, _, _, _] _ _ _
              refine xr_goto 40 dX9_isBack_115 (by decide) ?_
              rw [k_1, nI_add]
              refine IH2 f' c' _ hf' hsub hmin' (fun t' h1 h2 => ?_)
              by_cases e : t' = t
              · subst e; exact hall (hsub t' ht8 h2)
              · exact hdone t' (by omega) h2
            refine xr_icmp_ge 112 dX9_isBack_55 (by decide) (fun hc3 => ?_) (fun hc3 => ?_)
            · have : x = mK M := by have := nle hc3; omega
              exact out (by rw [← this]; exact hnow)
            · have hxK := nlt hc3
              have IH1 := IH1 hxK
              refine xr_aload0 dX9_isBack_58 rfl ?_
              refine xr_getR dX9_isBack_59 fk_9_35 lay_77 rfl ?_
              refine xr_iload3 dX9_isBack_62 rfl ?_
              refine xr_zald _ dX9_isBack_63 lay_85 (by (try simp only [k_0, k_1, k_2, k_3, k_4, k_5, k_8, k_16, k_34, k_40, k_200, k_201, k_256, k_512, nI_add, pk_mul]); first | done | rfl) ht8 (by decide) ?_
              rw [up_same, hf' t ht8]
              refine xr_if_eq 112 dX9_isBack_64 (by decide) (fun hct => ?_) (fun hct => ?_)
              · have hct := b2_0.mp hct
                exact out (fun q => by rw [hct] at q; cases q)
              · have hct : c' t = true := by
                  cases hq : c' t with
                  | true => rfl
                  | false => rw [hq] at hct; exact absurd rfl hct
                refine xr_iload3 dX9_isBack_67 rfl ?_
                refine xr_aload0 dX9_isBack_68 rfl ?_
                refine xr_getIv dX9_isBack_69 fk_9_116 lay_77 rfl (kN _) ?_
                refine xr_icmp_ge 112 dX9_isBack_72 (by decide) (fun hn => ?_) (fun hn => ?_)
                · have hn := nle hn
                  exact out (fun _ q => by omega)
                · have hn := nlt hn
                  refine xr_aload0 dX9_isBack_75 rfl ?_
                  refine xr_getR dX9_isBack_76 fk_9_26 lay_77 rfl ?_
                  refine xr_ic4 dX9_isBack_79 ?_
                  refine xr_iload3 dX9_isBack_80 rfl ?_
                  refine xr_imul dX9_isBack_81 ?_
                  refine xr_iload dX9_isBack_82 rfl ?_
                  refine xr_iadd dX9_isBack_84 ?_
                  refine xr_ialdv (4 * t + x) dX9_isBack_85 lay_82 (by simp only [k_4, pk_mul, nI_add]) (by omega) (by decide) (kG _ t x hn hxK) ?_
                  have hg8 := (hok t x hn hxK).2
                  refine xr_if_lt 106 dX9_isBack_86 (by decide) (fun hlt => ?_) (fun hlt => ?_)
                  · have hnone := oI_neg hlt (fun g q => by have := hg8 g q; omega)
                    refine xr_iinc dX9_isBack_106 rfl ii_1 (Nat.le_of_ble_eq_true rfl) ?_
                    show xT _ _ _ 109 [_, _, _, _, _] _ _ _
                    refine xr_goto 49 dX9_isBack_109 (by decide) ?_
                    rw [k_1, nI_add]
                    refine IH1 f' c' hf' hsub hmin' hdone (fun h1 h2 x' h3 g hg => ?_)
                    by_cases e : x' = x
                    · subst e; rw [hnone] at hg; cases hg
                    · exact hnow h1 h2 x' (by omega) g hg
                  · obtain ⟨g, hg⟩ := oI_pos hlt
                    have hgl := hg8 g hg
                    refine xr_aload0 dX9_isBack_89 rfl ?_
                    refine xr_getR dX9_isBack_90 fk_9_35 lay_77 rfl ?_
                    refine xr_aload0 dX9_isBack_93 rfl ?_
                    refine xr_getR dX9_isBack_94 fk_9_26 lay_77 rfl ?_
                    refine xr_ic4 dX9_isBack_97 ?_
                    refine xr_iload3 dX9_isBack_98 rfl ?_
                    refine xr_imul dX9_isBack_99 ?_
                    refine xr_iload dX9_isBack_100 rfl ?_
                    show xT _ _ _ 102 _ _ _ _
                    refine xr_iadd dX9_isBack_102 ?_
                    refine xr_ialdv (4 * t + x) dX9_isBack_103 lay_82 (by simp only [k_4, pk_mul, nI_add]) (by omega) (by decide) (kG _ t x hn hxK) ?_
                    rw [hg]
                    refine xr_ic1 dX9_isBack_104 ?_
                    refine xr_zast _ dX9_isBack_105 lay_85 rfl hgl (by decide) (by simp) ?_
                    refine xr_iinc dX9_isBack_106 rfl ii_1 (Nat.le_of_ble_eq_true rfl) ?_
                    show xT _ _ _ 109 [_, _, _, _, _] _ _ _
                    refine xr_goto 49 dX9_isBack_109 (by decide) ?_
                    rw [k_1, nI_add, bx_uu, up_same]
                    refine IH1 (upd f' g 1) (fun q => if q = g then true else c' q) (fun q hq => ?_) (fun q h1 h2 => ?_) (fun S h1 h2 q h3 h4 => ?_) (fun t' h1 h2 h3 x' h4 g' h5 => ?_) (fun h1 h2 x' h3 g' h4 => ?_)
                    · by_cases e : q = g
                      · subst e; rw [upd_same, if_pos rfl]; rfl
                      · rw [upd_ne _ _ e, if_neg e]; exact hf' q hq
                    · by_cases e : q = g
                      · rw [if_pos e]
                      · rw [if_neg e]; exact hsub q h1 h2
                    · by_cases e : q = g
                      · subst e
                        exact h2 t (hmin' S h1 h2 t ht8 hct) hn x hxK q hg
                      · rw [if_neg e] at h4
                        exact hmin' S h1 h2 q h3 h4
                    · by_cases e : g' = g
                      · rw [if_pos e]
                      · rw [if_neg e]; exact hdone t' h1 h2 h3 x' h4 g' h5
                    · by_cases e : g' = g
                      · rw [if_pos e]
                      · rw [if_neg e]
                        by_cases e2 : x' = x
                        · subst e2
                          rw [hg] at h4
                          exact absurd (Option.some.inj h4).symm e
                        · exact hnow hct h2 x' (by omega) g' h4
          exact L1 0 (by omega) f' c' hf' hsub hmin' hdone (fun _ _ x' h => by omega)
      exact L2 0 (by omega) f c _ hf (fun _ _ q => q) (fun S h1 _ => h1) (fun t' h => by omega)
  -- the first loop
  refine x_ent (by decide) (Nat.le_of_ble_eq_true rfl) rfl ?_
  show xT _ _ _ 0 [_, _, _, _, _] _ _ _
  refine xr_ic0 dX9_isBack_0 ?_
  refine xr_istore2 dX9_isBack_1 (Nat.le_of_ble_eq_true rfl) ?_
  show xT _ _ _ 2 [_, _, _, _, _] _ _ _
  have L0 : ∀ t, t ≤ 8 → ∀ (f : Nat → Int32), (∀ t', t' < t → f t' = b2 (t' == s)) → xT G M_X9_isBack (xMQ G (xpi fun r I' J' => r = b2 (mB M s) ∧ (∃ f, I' = va_up I 85 f) ∧ J = J')) 2 [some (.ref (G.1 77)), some (.int (nI s)), some (.int (nI t)), none, none] [] (va_up I 85 f) J := by
    refine x_for (fun t ht IH f hf => ?_)
    refine xr_iload2 dX9_isBack_2 rfl ?_
    refine xr_bip bi_8 dX9_isBack_3 ?_
    rw [k_8]
    refine xr_icmp_ge 30 dX9_isBack_5 (by decide) (fun hc => ?_) (fun hc => ?_)
    · have : t = 8 := by have := nle hc; omega
      subst this
      refine xr_ic0 dX9_isBack_30 ?_
      refine xr_istore2 dX9_isBack_31 (Nat.le_of_ble_eq_true rfl) ?_
      show xT _ _ _ 32 [_, _, _, _, _] _ _ _
      refine L3 0 (by omega) f (fun q => q == s) _ _ hf (by simp) (fun S hS _ t _ h => ?_) (Or.inr (cnt_pos hs (by simp)))
      have : t = s := by simpa using h
      rw [this]; exact hS
    · have ht8 := nlt hc
      have IH := IH ht8
      have J23 : ∀ b : Bool, b = (t == s) → xT G M_X9_isBack (xMQ G (xpi fun r I' J' => r = b2 (mB M s) ∧ (∃ f, I' = va_up I 85 f) ∧ J = J')) 23 [some (.ref (G.1 77)), some (.int (nI s)), some (.int (nI t)), none, none] [.int (b2 b), .int (nI t), .ref (G.1 85)] (va_up I 85 f) J := by
        intro b hb
        refine xr_zast _ dX9_isBack_23 lay_85 rfl ht8 (by decide) (b2_01 _) ?_
        refine xr_iinc dX9_isBack_24 rfl ii_1 (Nat.le_of_ble_eq_true rfl) ?_
        show xT _ _ _ 27 [_, _, _, _, _] _ _ _
        refine xr_goto 2 dX9_isBack_27 (by decide) ?_
        rw [k_1, nI_add, bx_uu, up_same]
        refine IH _ (fun t' h => ?_)
        by_cases e : t' = t
        · subst e; rw [upd_same, hb]
        · rw [upd_ne _ _ e]; exact hf t' (by omega)
      refine xr_aload0 dX9_isBack_8 rfl ?_
      refine xr_getR dX9_isBack_9 fk_9_35 lay_77 rfl ?_
      refine xr_iload2 dX9_isBack_12 rfl ?_
      refine xr_iload2 dX9_isBack_13 rfl ?_
      refine xr_iload1 dX9_isBack_14 rfl ?_
      refine xr_icmp_ne 22 dX9_isBack_15 (by decide) (fun he => ?_) (fun he => ?_)
      · have : t ≠ s := fun q => he (by rw [q])
        refine xr_ic0 dX9_isBack_22 ?_
        exact J23 false (by simp [this])
      · have he : t = s := (nI_eq (by omega) (by omega)).mp he
        refine xr_ic1 dX9_isBack_18 ?_
        refine xr_goto 23 dX9_isBack_19 (by decide) ?_
        exact J23 true (by simp [he])
  have e0 : va_up I 85 (I 85) = I := by
    funext q
    by_cases h : q = 85
    · subst h; rw [up_same]
    · rw [va_up_ne _ _ h]
  have := L0 0 (by omega) (I 85) (fun t' h => by omega)
  rw [e0] at this
  exact this
end M04
