section M13
variable {G : xG} {I : xI} {J : xJ}
theorem tneg {m : Nat} (h : m % 2 = 1) : -tok m - 1 = nI (m / 2) := by
  rw [tok, if_neg (by omega), ← nI_1]
  grind
theorem c9_put {S : xSt} (spot a b c d : Int32) (h : mIv I S) : xCon G M_X9_put [.ref (G.1 77), .int spot, .int a, .int b, .int c, .int d] I J (xpi fun v I' J' => v = (sp_put S spot a b c d).1 ∧ mIv I' (sp_put S spot a b c d).2 ∧ mfr I J I' J') := by
  obtain ⟨⟨hK2, hK4, hN8, hok⟩, hK, hN, hwg⟩ := id h.2.1
  have hmem : ∀ (n : Nat) (j : Nat) (hj : j < ([a, b, c, d].take n).length), ([a, b, c, d].take n)[j] = [a, b, c, d].getD j 0 := fun n j hj => by
    rw [List.getElem_take]
    rw [List.length_take] at hj
    have : j < [a, b, c, d].length := by omega
    rw [List.getD_eq_getElem?_getD, List.getElem?_eq_getElem this]
    rfl
  -- adding the tokens
  have L3 : ∀ (w : Nat) (n : Nat), w < 8 → spot = nI w → ix spot 8 = some w → n ≤ 4 → ptoks a b c d = [a, b, c, d].take n → (∀ j, j < n → tok (t2m ([a, b, c, d].getD j 0)) = [a, b, c, d].getD j 0 ∧ mOkm S.2.1 (t2m ([a, b, c, d].getD j 0))) → (ptoks a b c d).all (fun t => decide (-(mN S.2.1 : Int) ≤ t.toInt ∧ t.toInt ≤ mN S.2.1)) = true → (ptoks a b c d).any (fun t => decide (t.toInt < 0) && !mB S.2.1 (t2m t / 2)) = false → ∀ k, k ≤ n → ∀ I1 (z7 : Int32), mfx [83, 84, 85, 87] [] I I1 → mwx [8] I I1 → (∀ j, j < 4 → I1 87 j = [a, b, c, d].getD j 0) → mWd I1 8 (wapp (S.2.2 w) ((([a, b, c, d].take n).map t2m).take k)) → xT G M_X9_put (xMQ G (xpi fun v I' J' => v = (sp_put S spot a b c d).1 ∧ mIv I' (sp_put S spot a b c d).2 ∧ mfr I J I' J')) 161 [some (.ref (G.1 77)), some (.int spot), some (.int a), some (.int b), some (.int c), some (.int d), some (.int (nI n)), some (.int z7), some (.int (nI k))] [] I1 J := by
    intro w n hw8 hsp hix hn hpt hgood hall hany
    obtain ⟨wd, wl, wr, wo⟩ := h.2.2 w hw8
    have hmw : wOk S.2.1 (([a, b, c, d].take n).map t2m) := fun m hm => by
      obtain ⟨t, ht, rfl⟩ := List.mem_map.mp hm
      obtain ⟨j, hj, rfl⟩ := List.getElem_of_mem ht
      rw [hmem n j hj]
      rw [List.length_take] at hj
      exact (hgood j (by omega)).2
    have hll : (([a, b, c, d].take n).map t2m).length = n := by simp; omega
    refine x_for (fun k hk IH I1 z7 f1 x1 h87 d1 => ?_)
    have hl1 := wapp_len ((([a, b, c, d].take n).map t2m).take k) (S.2.2 w)
    rw [List.length_take, hll] at hl1
    refine xr_iload dX9_put_161 rfl ?_
    refine xr_iload dX9_put_163 rfl ?_
    refine xr_icmp_ge 187 dX9_put_165 (by decide) (fun hc => ?_) (fun hc => ?_)
    · have : k = n := by have := nle hc; omega
      subst this
      rw [List.take_of_length_le (by omega)] at d1 hl1
      rw [← hpt] at d1 hl1
      refine xr_aload0 dX9_put_187 rfl ?_
      refine xr_getR dX9_put_188 fk_9_32 lay_77 rfl ?_
      refine xr_bip bi_8 dX9_put_191 ?_
      refine xr_ialdv 8 dX9_put_193 lay_84 (by (try simp only [k_0, k_1, k_2, k_3, k_4, k_5, k_8, k_16, k_34, k_40, k_200, k_201, k_256, k_512, nI_add, pk_mul]); first | done | rfl) (by omega) (by decide) d1.1 ?_
      refine xr_bip bi_16 dX9_put_194 ?_
      rw [show (16 : Int32) = nI 16 from rfl]
      have e : sp_put S spot a b c d = if 16 < (wapp (S.2.2 w) ((ptoks a b c d).map t2m)).length then (-2, S) else (nI (wapp (S.2.2 w) ((ptoks a b c d).map t2m)).length, (S.1, S.2.1, va_up S.2.2 w (wapp (S.2.2 w) ((ptoks a b c d).map t2m)))) := by
        unfold sp_put
        rw [hix]
        simp only [hall, hany]
        rfl
      refine xr_icmp_le 202 dX9_put_196 (by decide) (fun h16 => ?_) (fun h16 => ?_)
      rotate_left
      · have h16 : 16 < (wapp (S.2.2 w) ((ptoks a b c d).map t2m)).length := Nat.not_le.mp (fun q => h16 ((nI_leI (by omega) (by decide)).mpr q))
        refine xr_bip bi_m2 dX9_put_199 ?_
        refine xr_iret dX9_put_201 rfl rfl ⟨by rw [e, if_pos h16], ?_, f1.fr (by decide) rfl⟩
        rw [e, if_pos h16]
        exact ⟨f1.sh h.1 (by decide), f1.mach h.2.1 (by decide) (by decide), h.2.2.keep x1 (by decide)⟩
      · have h16 : (wapp (S.2.2 w) ((ptoks a b c d).map t2m)).length ≤ 16 := (nI_leI (by omega) (by decide)).mp h16
        rw [if_neg (by omega)] at e
        refine xr_aload0 dX9_put_202 rfl ?_
        refine xr_iload1 dX9_put_203 rfl ?_
        refine xr_bip bi_8 dX9_put_204 ?_
        simp only [hsp]
        refine xr_cVv [_, _] dX9_put_206 (xcv_of cf_X9_copy ml_9_140 (by decide)) rfl lay_77 rfl rfl rfl (Nat.le_of_ble_eq_true rfl) (c9_copy (by omega) (by decide) d1 (by omega)) (fun I2 J2 hc2 => ?_)
        obtain ⟨d2, x2, f2, rfl⟩ := hc2
        have f12 := f1.tr (f2.mono (A' := [83, 84, 85, 87]) (by simp) (fun a h => h))
        refine xr_aload0 dX9_put_209 rfl ?_
        refine xr_getR dX9_put_210 fk_9_32 lay_77 rfl ?_
        refine xr_iload1 dX9_put_213 rfl ?_
        refine xr_ialdv _ dX9_put_214 lay_84 (by (try simp only [k_0, k_1, k_2, k_3, k_4, k_5, k_8, k_16, k_34, k_40, k_200, k_201, k_256, k_512, nI_add, pk_mul]); first | done | rfl) (by omega) (by decide) d2.1 ?_
        rw [← hsp]
        refine xr_iret dX9_put_215 rfl rfl ⟨by rw [e], ?_, f12.fr (by decide) rfl⟩
        rw [e]
        rw [← hpt] at hmw
        exact ⟨f12.sh h.1 (by decide), f12.mach h.2.1 (by decide) (by decide), h.2.2.set (W := [8]) ((x1.mono (by simp)).tr (x2.mono (by simp))) (by decide) d2 ⟨h16, wapp_red _ _ wr, wapp_ok _ _ wo hmw⟩⟩
    · have hkn := nlt hc
      have IH := IH hkn
      obtain ⟨t1, t2⟩ := hgood k hkn
      refine xr_aload0 dX9_put_168 rfl ?_
      refine xr_bip bi_8 dX9_put_169 ?_
      refine xr_aload0 dX9_put_171 rfl ?_
      refine xr_getR dX9_put_172 fk_9_42 lay_77 rfl ?_
      refine xr_iload dX9_put_175 rfl ?_
      refine xr_ialdv _ dX9_put_177 lay_87 (by (try simp only [k_0, k_1, k_2, k_3, k_4, k_5, k_8, k_16, k_34, k_40, k_200, k_201, k_256, k_512, nI_add, pk_mul]); first | done | rfl) (by omega) (by decide) (h87 k (by omega)) ?_
      rw [← t1]
      refine xr_cVv [_, _] dX9_put_178 (xcv_of cf_X9_add ml_9_144 (by decide)) rfl lay_77 rfl rfl rfl (Nat.le_of_ble_eq_true rfl) (c9_add (by decide) d1 (by omega) (by have := t2.1; omega) (fun q hq => (wapp_ok _ _ wo (fun m hm => hmw m (List.mem_of_mem_take hm))).lt hN8 hq)) (fun I2 J2 hc2 => ?_)
      obtain ⟨d2, x2, f2, rfl⟩ := hc2
      refine xr_iinc dX9_put_181 rfl ii_1 (Nat.le_of_ble_eq_true rfl) ?_
      show xT _ _ _ 184 [_, _, _, _, _, _, _, _, _] _ _ _
      refine xr_goto 161 dX9_put_184 (by decide) ?_
      rw [k_1, nI_add]
      refine IH I2 _ (f1.tr (f2.mono (by simp) (fun a h => h))) (x1.tr x2) (fun j hj => by rw [f2.1 87 (by decide) (by decide)]; exact h87 j hj) ?_
      rw [← wapp_snoc] at d2
      rw [List.take_succ_eq_append_getElem (by omega), List.getElem_map, hmem n k (by simp; omega)]
      exact d2
  -- looking for KIND
  have L2 : ∀ (w : Nat) (n : Nat), w < 8 → spot = nI w → ix spot 8 = some w → n ≤ 4 → ptoks a b c d = [a, b, c, d].take n → (∀ j, j < n → [a, b, c, d].getD j 0 ≠ 0 ∧ -(mN S.2.1 : Int) ≤ ([a, b, c, d].getD j 0).toInt ∧ ([a, b, c, d].getD j 0).toInt ≤ mN S.2.1) → (ptoks a b c d).all (fun t => decide (-(mN S.2.1 : Int) ≤ t.toInt ∧ t.toInt ≤ mN S.2.1)) = true → ∀ k, k ≤ n → ∀ I1 (z7 : Int32), mfx [83, 84, 85, 87] [] I I1 → mwx [8] I I1 → (∀ j, j < 4 → I1 87 j = [a, b, c, d].getD j 0) → (∀ j, j < k → ([a, b, c, d].getD j 0).toInt < 0 → mBack S.2.1 (t2m ([a, b, c, d].getD j 0) / 2)) → xT G M_X9_put (xMQ G (xpi fun v I' J' => v = (sp_put S spot a b c d).1 ∧ mIv I' (sp_put S spot a b c d).2 ∧ mfr I J I' J')) 108 [some (.ref (G.1 77)), some (.int spot), some (.int a), some (.int b), some (.int c), some (.int d), some (.int (nI n)), some (.int z7), some (.int (nI k))] [] I1 J := by
    intro w n hw8 hsp hix hn hpt hgood hall
    obtain ⟨wd, wl, wr, wo⟩ := h.2.2 w hw8
    refine x_for (fun k hk IH I1 z7 f1 x1 h87 hbk => ?_)
    refine xr_iload dX9_put_108 rfl ?_
    refine xr_iload dX9_put_110 rfl ?_
    refine xr_icmp_ge 151 dX9_put_112 (by decide) (fun hc => ?_) (fun hc => ?_)
    · have : k = n := by have := nle hc; omega
      subst this
      have hany : (ptoks a b c d).any (fun t => decide (t.toInt < 0) && !mB S.2.1 (t2m t / 2)) = false := by
        rw [List.any_eq_false, hpt]
        intro t ht
        obtain ⟨j, hj, rfl⟩ := List.getElem_of_mem ht
        rw [hmem k j hj]
        rw [List.length_take] at hj
        intro q
        simp only [Bool.and_eq_true, decide_eq_true_eq, Bool.not_eq_true'] at q
        rw [mB_iff.mpr (hbk j (by omega) q.1)] at q
        exact absurd q.2 (by decide)
      refine xr_aload0 dX9_put_151 rfl ?_
      refine xr_bip bi_8 dX9_put_152 ?_
      refine xr_iload1 dX9_put_154 rfl ?_
      simp only [hsp]
      refine xr_cVv [_, _] dX9_put_155 (xcv_of cf_X9_copy ml_9_140 (by decide)) rfl lay_77 rfl rfl rfl (Nat.le_of_ble_eq_true rfl) (c9_copy (by decide) (by omega) (x1.wd (w := w) (by omega) (by simp; omega) (by omega) wd) (by omega)) (fun I2 J2 hc2 => ?_)
      obtain ⟨d2, x2, f2, rfl⟩ := hc2
      refine xr_ic0 dX9_put_158 ?_
      refine xr_istore dX9_put_159 (Nat.le_of_ble_eq_true rfl) ?_
      show xT _ _ _ 161 [_, _, _, _, _, _, _, _, _] _ _ _
      rw [← hsp]
      refine L3 w k hw8 hsp hix hn hpt (fun j hj => ?_) hall hany 0 (Nat.zero_le _) I2 z7 (f1.tr (f2.mono (by simp) (fun a h => h))) (x1.tr x2) (fun j hj => by rw [f2.1 87 (by decide) (by decide)]; exact h87 j hj) (by simpa [wapp] using d2)
      obtain ⟨g0, g1, g2⟩ := hgood j hj
      obtain ⟨t1, t2, t3, t4⟩ := t2m_tok hN8 g0 g1 g2
      exact ⟨t1, t2, fun q => hbk j hj (t3.mp q)⟩
    · have hkn := nlt hc
      have IH := IH hkn
      obtain ⟨g0, g1, g2⟩ := hgood k hkn
      obtain ⟨t1, t2, t3, t4⟩ := t2m_tok hN8 g0 g1 g2
      generalize ht : [a, b, c, d].getD k 0 = t at g0 g1 g2 t1 t2 t3 t4
      refine xr_aload0 dX9_put_115 rfl ?_
      refine xr_getR dX9_put_116 fk_9_42 lay_77 rfl ?_
      refine xr_iload dX9_put_119 rfl ?_
      refine xr_ialdv _ dX9_put_121 lay_87 (by (try simp only [k_0, k_1, k_2, k_3, k_4, k_5, k_8, k_16, k_34, k_40, k_200, k_201, k_256, k_512, nI_add, pk_mul]); first | done | rfl) (by omega) (by decide) ((h87 k (by omega)).trans ht) ?_
      refine xr_if_ge 145 dX9_put_122 (by decide) (fun hneg => ?_) (fun hneg => ?_)
      · have hneg : ¬ t.toInt < 0 := by rw [le_toInt, ti_0] at hneg; omega
        refine xr_iinc dX9_put_145 rfl ii_1 (Nat.le_of_ble_eq_true rfl) ?_
        show xT _ _ _ 148 [_, _, _, _, _, _, _, _, _] _ _ _
        refine xr_goto 108 dX9_put_148 (by decide) ?_
        rw [k_1, nI_add]
        refine IH I1 z7 f1 x1 h87 (fun j hj q => ?_)
        by_cases e : j = k
        · subst e; rw [ht] at q; exact absurd q hneg
        · exact hbk j (by omega) q
      · have hneg : t.toInt < 0 := by rw [le_toInt, ti_0] at hneg; omega
        refine xr_aload0 dX9_put_125 rfl ?_
        refine xr_aload0 dX9_put_126 rfl ?_
        refine xr_getR dX9_put_127 fk_9_42 lay_77 rfl ?_
        refine xr_iload dX9_put_130 rfl ?_
        refine xr_ialdv _ dX9_put_132 lay_87 (by (try simp only [k_0, k_1, k_2, k_3, k_4, k_5, k_8, k_16, k_34, k_40, k_200, k_201, k_256, k_512, nI_add, pk_mul]); first | done | rfl) (by omega) (by decide) ((h87 k (by omega)).trans ht) ?_
        refine xr_ineg dX9_put_133 ?_
        refine xr_ic1 dX9_put_134 ?_
        refine xr_isub dX9_put_135 ?_
        show xT _ _ _ 136 _ _ _ _
        have e2 : -t - 1 = nI (t2m t / 2) := by
          have := tneg (m := t2m t) (t3.mpr hneg)
          rw [t1] at this
          exact this
        rw [e2]
        refine xr_cVi [_] dX9_put_136 (xcv_of cf_X9_isBack ml_9_124 (by decide)) rfl lay_77 rfl rfl rfl (Nat.le_of_ble_eq_true rfl) (c9_isBack (f1.mach h.2.1 (by decide) (by decide)) (by omega)) (fun v I2 J2 hc2 => ?_)
        obtain ⟨rfl, ⟨f, rfl⟩, rfl⟩ := hc2
        have f2 := f1.up (k := 85) f (by decide) (by decide)
        have x2 : mwx [8] I (va_up I1 85 f) := x1.tr (mwx.of (by rw [va_up_ne _ _ (by decide)]) (by rw [va_up_ne _ _ (by decide)]))
        refine xr_if_ne 145 dX9_put_139 (by decide) (fun hb => ?_) (fun hb => ?_)
        rotate_left
        · have hb := b2_0.mp hb
          have hany : (ptoks a b c d).any (fun t => decide (t.toInt < 0) && !mB S.2.1 (t2m t / 2)) = true := by
            rw [List.any_eq_true, hpt]
            refine ⟨t, ?_, by simp [hneg, hb]⟩
            have hj : k < ([a, b, c, d].take n).length := by simp; omega
            rw [← ht, ← hmem n k hj]
            exact List.getElem_mem hj
          have e : sp_put S spot a b c d = (-6, S) := by
            unfold sp_put
            rw [hix]
            simp only [hall, hany]
            rfl
          refine xr_bip bi_m6 dX9_put_142 ?_
          refine xr_iret dX9_put_144 rfl rfl ⟨by rw [e], ?_, f2.fr (by decide) rfl⟩
          rw [e]
          exact ⟨f2.sh h.1 (by decide), f2.mach h.2.1 (by decide) (by decide), h.2.2.keep x2 (by decide)⟩
        · have hb : mB S.2.1 (t2m t / 2) = true := by
            cases hq : mB S.2.1 (t2m t / 2) with
            | true => rfl
            | false => rw [hq] at hb; exact absurd rfl hb
          refine xr_iinc dX9_put_145 rfl ii_1 (Nat.le_of_ble_eq_true rfl) ?_
          show xT _ _ _ 148 [_, _, _, _, _, _, _, _, _] _ _ _
          refine xr_goto 108 dX9_put_148 (by decide) ?_
          rw [k_1, nI_add]
          refine IH _ z7 f2 x2 (fun j hj => by rw [va_up_ne _ _ (by decide)]; exact h87 j hj) (fun j hj q => ?_)
          by_cases e : j = k
          · subst e; rw [ht]; exact mB_iff.mp hb
          · exact hbk j (by omega) q
  -- the tokens ahead of the first 0
  have L1 : ∀ n, n ≤ 4 → ∀ I1 (bb : Bool) (z8 : Option Value), mfx [83, 84, 85, 87] [] I I1 → mwx [8] I I1 → (∀ j, j < 4 → I1 87 j = [a, b, c, d].getD j 0) → (∀ j, j < n → [a, b, c, d].getD j 0 ≠ 0) → (bb = true ↔ (ix spot 8).isSome = true ∧ ∀ j, j < n → -(mN S.2.1 : Int) ≤ ([a, b, c, d].getD j 0).toInt ∧ ([a, b, c, d].getD j 0).toInt ≤ mN S.2.1) → xT G M_X9_put (xMQ G (xpi fun v I' J' => v = (sp_put S spot a b c d).1 ∧ mIv I' (sp_put S spot a b c d).2 ∧ mfr I J I' J')) 39 [some (.ref (G.1 77)), some (.int spot), some (.int a), some (.int b), some (.int c), some (.int d), some (.int (nI n)), some (.int (b2 bb)), z8] [] I1 J := by
    refine x_for (fun n hn IH I1 bb z8 f1 x1 h87 hnz hbb => ?_)
    have hN1 : I1 77 4 = nI (mN S.2.1) := (f1.2 4 (by decide)).trans hN
    have out : (n < 4 → [a, b, c, d].getD n 0 = 0) → xT G M_X9_put (xMQ G (xpi fun v I' J' => v = (sp_put S spot a b c d).1 ∧ mIv I' (sp_put S spot a b c d).2 ∧ mfr I J I' J')) 98 [some (.ref (G.1 77)), some (.int spot), some (.int a), some (.int b), some (.int c), some (.int d), some (.int (nI n)), some (.int (b2 bb)), z8] [] I1 J := by
      intro h0
      have hpt := ptoks_take hn hnz h0
      refine xr_iload dX9_put_98 rfl ?_
      refine xr_if_ne 105 dX9_put_100 (by decide) (fun hb => ?_) (fun hb => ?_)
      rotate_left
      · have hb := b2_0.mp hb
        have e : sp_put S spot a b c d = (-1, S) := by
          unfold sp_put
          cases hx : ix spot 8 with
          | none => rfl
          | some w =>
            have : (ptoks a b c d).all (fun t => decide (-(mN S.2.1 : Int) ≤ t.toInt ∧ t.toInt ≤ mN S.2.1)) = false := by
              cases hq : (ptoks a b c d).all (fun t => decide (-(mN S.2.1 : Int) ≤ t.toInt ∧ t.toInt ≤ mN S.2.1)) with
              | false => rfl
              | true =>
                exfalso
                rw [List.all_eq_true, hpt] at hq
                have : bb = true := hbb.mpr ⟨by rw [hx]; rfl, fun j hj => by
                  have hj2 : j < ([a, b, c, d].take n).length := by simp; omega
                  have := hq _ (List.getElem_mem hj2)
                  rw [hmem n j hj2] at this
                  simpa using this⟩
                rw [this] at hb; cases hb
            simp only [this]
            rfl
        refine xr_icm1 dX9_put_103 ?_
        refine xr_iret dX9_put_104 rfl rfl ⟨by rw [e], ?_, f1.fr (by decide) rfl⟩
        rw [e]
        exact ⟨f1.sh h.1 (by decide), f1.mach h.2.1 (by decide) (by decide), h.2.2.keep x1 (by decide)⟩
      · have hb : bb = true := by
          cases bb with
          | true => rfl
          | false => exact absurd rfl hb
        obtain ⟨hs, hrg⟩ := hbb.mp hb
        obtain ⟨w, hix⟩ := Option.isSome_iff_exists.mp hs
        obtain ⟨hw8, hsp⟩ := ix_some hix
        have hall : (ptoks a b c d).all (fun t => decide (-(mN S.2.1 : Int) ≤ t.toInt ∧ t.toInt ≤ mN S.2.1)) = true := by
          rw [List.all_eq_true, hpt]
          intro t ht
          obtain ⟨j, hj, rfl⟩ := List.getElem_of_mem ht
          rw [hmem n j hj]
          rw [List.length_take] at hj
          simpa using hrg j (by omega)
        refine xr_ic0 dX9_put_105 ?_
        refine xr_istore dX9_put_106 (Nat.le_of_ble_eq_true rfl) ?_
        show xT _ _ _ 108 [_, _, _, _, _, _, _, _, _] _ _ _
        exact L2 w n hw8 hsp hix hn hpt (fun j hj => ⟨hnz j hj, hrg j hj⟩) hall 0 (Nat.zero_le _) I1 _ f1 x1 h87 (fun j hj => by omega)
    refine xr_iload dX9_put_39 rfl ?_
    refine xr_ic4 dX9_put_41 ?_
    refine xr_icmp_ge 98 dX9_put_42 (by decide) (fun hc => ?_) (fun hc => ?_)
    · have : 4 ≤ n := nle (b := 4) hc
      exact out (fun q => by omega)
    · have hn4 : n < 4 := nlt (b := 4) hc
      have IH := IH hn4
      refine xr_aload0 dX9_put_45 rfl ?_
      refine xr_getR dX9_put_46 fk_9_42 lay_77 rfl ?_
      refine xr_iload dX9_put_49 rfl ?_
      refine xr_ialdv _ dX9_put_51 lay_87 (by (try simp only [k_0, k_1, k_2, k_3, k_4, k_5, k_8, k_16, k_34, k_40, k_200, k_201, k_256, k_512, nI_add, pk_mul]); first | done | rfl) (by omega) (by decide) (h87 n hn4) ?_
      refine xr_if_eq 98 dX9_put_52 (by decide) (fun hz => ?_) (fun hz => ?_)
      · exact out (fun _ => hz)
      · generalize ht : [a, b, c, d].getD n 0 = t at hz
        have J90 : ∀ b' : Bool, (b' = true ↔ bb = true ∧ -(mN S.2.1 : Int) ≤ t.toInt ∧ t.toInt ≤ mN S.2.1) → xT G M_X9_put (xMQ G (xpi fun v I' J' => v = (sp_put S spot a b c d).1 ∧ mIv I' (sp_put S spot a b c d).2 ∧ mfr I J I' J')) 90 [some (.ref (G.1 77)), some (.int spot), some (.int a), some (.int b), some (.int c), some (.int d), some (.int (nI n)), some (.int (b2 bb)), z8] [.int (b2 b')] I1 J := by
          intro b' hb'
          refine xr_istore dX9_put_90 (Nat.le_of_ble_eq_true rfl) ?_
          show xT _ _ _ 92 [_, _, _, _, _, _, _, _, _] _ _ _
          refine xr_iinc dX9_put_92 rfl ii_1 (Nat.le_of_ble_eq_true rfl) ?_
          show xT _ _ _ 95 [_, _, _, _, _, _, _, _, _] _ _ _
          refine xr_goto 39 dX9_put_95 (by decide) ?_
          rw [k_1, nI_add]
          refine IH I1 b' z8 f1 x1 h87 (fun j hj => ?_) (hb'.trans ⟨fun q => ⟨(hbb.mp q.1).1, fun j hj => ?_⟩, fun q => ⟨hbb.mpr ⟨q.1, fun j hj => q.2 j (by omega)⟩, by have := q.2 n (by omega); rw [ht] at this; exact this⟩⟩)
          · by_cases e : j = n
            · subst e; rw [ht]; exact hz
            · exact hnz j (by omega)
          · by_cases e : j = n
            · subst e; rw [ht]; exact q.2
            · exact (hbb.mp q.1).2 j (by omega)
        refine xr_iload dX9_put_55 rfl ?_
        refine xr_if_eq 89 dX9_put_57 (by decide) (fun hb0 => ?_) (fun hb0 => ?_)
        · have hb0 := b2_0.mp hb0
          refine xr_ic0 dX9_put_89 ?_
          exact J90 false ⟨fun q => (by cases q), fun q => by rw [hb0] at q; exact absurd q.1 (by decide)⟩
        · have hb1 : bb = true := by
            cases bb with
            | true => rfl
            | false => exact absurd rfl hb0
          have hlo : ((-nI (mN S.2.1) : Int32).toInt64).toInt = -(mN S.2.1 : Int) := by
            rw [Int32.toInt_toInt64, show -nI (mN S.2.1) = nI 0 - nI (mN S.2.1) by rw [← k_0]; grind, pk_sub_toInt (by decide) (by omega)]
            simp
          have hhi : ((nI (mN S.2.1) : Int32).toInt64).toInt = (mN S.2.1 : Int) := by rw [Int32.toInt_toInt64, nI_toInt (by omega)]
          refine xr_aload0 dX9_put_60 rfl ?_
          refine xr_getR dX9_put_61 fk_9_42 lay_77 rfl ?_
          refine xr_iload dX9_put_64 rfl ?_
          refine xr_ialdv _ dX9_put_66 lay_87 (by (try simp only [k_0, k_1, k_2, k_3, k_4, k_5, k_8, k_16, k_34, k_40, k_200, k_201, k_256, k_512, nI_add, pk_mul]); first | done | rfl) (by omega) (by decide) ((h87 n hn4).trans ht) ?_
          refine xr_i2l dX9_put_67 ?_
          refine xr_aload0 dX9_put_68 rfl ?_
          refine xr_getIv dX9_put_69 fk_9_116 lay_77 rfl hN1 ?_
          refine xr_ineg dX9_put_72 ?_
          show xT _ _ _ 73 _ _ _ _
          refine xr_i2l dX9_put_73 ?_
          refine xr_aload0 dX9_put_74 rfl ?_
          refine xr_getIv dX9_put_75 fk_9_116 lay_77 rfl hN1 ?_
          refine xr_i2l dX9_put_78 ?_
          refine xr_cSi [_, _, _] dX9_put_79 (xcs_of cf_X9_in ml_9_99 (by decide)) rfl rfl (Nat.le_of_ble_eq_true rfl) (c9_in _ _ _) (fun v I2 J2 hc2 => ?_)
          obtain ⟨rfl, rfl, rfl⟩ := hc2
          refine xr_if_eq 89 dX9_put_82 (by decide) (fun hin => ?_) (fun hin => ?_)
          · have hin := b2d hin
            rw [Int64.le_iff_toInt_le, Int64.le_iff_toInt_le, hlo, hhi, Int32.toInt_toInt64] at hin
            refine xr_ic0 dX9_put_89 ?_
            exact J90 false ⟨fun q => (by cases q), fun q => absurd q.2 hin⟩
          · have hin := b2d' hin
            rw [Int64.le_iff_toInt_le, Int64.le_iff_toInt_le, hlo, hhi, Int32.toInt_toInt64] at hin
            refine xr_ic1 dX9_put_85 ?_
            refine xr_goto 90 dX9_put_86 (by decide) ?_
            exact J90 true ⟨fun _ => ⟨hb1, hin⟩, fun _ => rfl⟩
  refine x_ent (by decide) (Nat.le_of_ble_eq_true rfl) rfl ?_
  show xT _ _ _ 0 [_, _, _, _, _, _, _, _, _] _ _ _
  refine xr_aload0 dX9_put_0 rfl ?_
  refine xr_getR dX9_put_1 fk_9_42 lay_77 rfl ?_
  refine xr_ic0 dX9_put_4 ?_
  refine xr_iload2 dX9_put_5 rfl ?_
  refine xr_iast 0 dX9_put_6 lay_87 rfl (by decide) (by decide) ?_
  refine xr_aload0 dX9_put_7 rfl ?_
  refine xr_getR dX9_put_8 fk_9_42 lay_77 rfl ?_
  refine xr_ic1 dX9_put_11 ?_
  show xT _ _ _ 12 _ _ _ _
  refine xr_iload3 dX9_put_12 rfl ?_
  refine xr_iast 1 dX9_put_13 lay_87 rfl (by decide) (by decide) ?_
  refine xr_aload0 dX9_put_14 rfl ?_
  refine xr_getR dX9_put_15 fk_9_42 lay_77 rfl ?_
  refine xr_ic2 dX9_put_18 ?_
  refine xr_iload dX9_put_19 rfl ?_
  refine xr_iast 2 dX9_put_21 lay_87 rfl (by decide) (by decide) ?_
  refine xr_aload0 dX9_put_22 rfl ?_
  show xT _ _ _ 23 _ _ _ _
  refine xr_getR dX9_put_23 fk_9_42 lay_77 rfl ?_
  refine xr_ic3 dX9_put_26 ?_
  refine xr_iload dX9_put_27 rfl ?_
  refine xr_iast 3 dX9_put_29 lay_87 rfl (by decide) (by decide) ?_
  refine xr_ic0 dX9_put_30 ?_
  refine xr_istore dX9_put_31 (Nat.le_of_ble_eq_true rfl) ?_
  show xT _ _ _ 33 [_, _, _, _, _, _, _, _, _] _ _ _
  refine xr_iload1 dX9_put_33 rfl ?_
  simp only [up_same, bx_uu]
  refine xr_cSi [_] dX9_put_34 (xcs_of cf_X9_isSpot ml_9_137 (by decide)) rfl rfl (Nat.le_of_ble_eq_true rfl) (c9_isSpot _) (fun v I1 J1 hc => ?_)
  obtain ⟨rfl, rfl, rfl⟩ := hc
  refine xr_istore dX9_put_37 (Nat.le_of_ble_eq_true rfl) ?_
  show xT _ _ _ 39 [_, _, _, _, _, _, _, _, _] _ _ _
  have f1 : mfx [83, 84, 85, 87] [] I (va_up I 87 (upd (upd (upd (upd (I 87) 0 a) 1 b) 2 c) 3 d)) := mfx.rf.up _ (by decide) (by decide)
  refine L1 0 (by decide) _ _ _ f1 (mwx.of (by rw [va_up_ne _ _ (by decide)]) (by rw [va_up_ne _ _ (by decide)])) (fun j hj => ?_) (fun j hj => by omega) ⟨fun q => ⟨q, fun j hj => by omega⟩, fun q => q.1⟩
  rw [up_same]
  rcases (show j = 0 ∨ j = 1 ∨ j = 2 ∨ j = 3 by omega) with rfl | rfl | rfl | rfl <;> simp [upd]
end M13
