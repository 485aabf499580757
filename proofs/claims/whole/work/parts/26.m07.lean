section M07
variable {G : xG} {I : xI} {J : xJ}
/-- has the sheet a pair for x from i on -/
theorem st_has {i : Int32} (hi : ¬ i < 0) {x n : Nat} (hx : x < 4) (hn : n ≤ 40) : ((i.toInt64 + (2 * nI x : Int32).toInt64 + 1 : Int64) < (nI n).toInt64) ↔ w2n i + 2 * x + 1 < n := by
  have h1 : i.toInt64 = lN (w2n i) := by rw [← nI_l (n := w2n i) (by have := Int32.toInt_lt i; unfold w2n; omega), nI_w2n hi]
  have hb : w2n i < 2 ^ 31 := by have := Int32.toInt_lt i; unfold w2n; omega
  rw [h1, k_2, pk_mul, nI_l (n := 2 * x) (by omega), nI_l (n := n) (by omega), lN_add, lN_1, pk_lLT (by omega) (by omega)]
theorem w2n_lt {v : Int32} {n : Nat} (h0 : 0 ≤ v.toInt) (h : v.toInt < n) : w2n v < n := by unfold w2n; omega
theorem c9_state {S : xSt} (r i : Int32) (h : mIv I S) : xCon G M_X9_state [.ref (G.1 77), .int r, .int i] I J (xpi fun v I' J' => v = (sp_state S r i).1 ∧ mIv I' (sp_state S r i).2 ∧ mfr I J I' J') := by
  obtain ⟨⟨hK2, hK4, hN8, hok⟩, hK, hN, hwg⟩ := id h.2.1
  refine x_ent (by decide) (Nat.le_of_ble_eq_true rfl) rfl ?_
  show xT _ _ _ 0 [_, _, _, _, _, _, _, _] _ _ _
  refine xr_iload1 dX9_state_0 rfl ?_
  refine xr_cSi [_] dX9_state_1 (xcs_of cf_X9_isSheet ml_9_105 (by decide)) rfl rfl (Nat.le_of_ble_eq_true rfl) (c9_isSheet _) (fun b I1 J1 hc => ?_)
  obtain ⟨rfl, rfl, rfl⟩ := hc
  refine xr_if_eq 11 dX9_state_4 (by decide) (fun hr => ?_) (fun hr => ?_)
  · have hr := is_n hr
    refine xr_icm1 dX9_state_11 ?_
    refine xr_iret dX9_state_12 rfl rfl ⟨by simp [sp_state, hr], by simpa [sp_state, hr] using h, mfr.rf⟩
  obtain ⟨r', hr⟩ := is_s hr
  obtain ⟨hr4, rfl⟩ := ix_some hr
  have h1 := h.1 r' hr4
  refine xr_iload2 dX9_state_7 rfl ?_
  refine xr_if_ge 13 dX9_state_8 (by decide) (fun hi => ?_) (fun hi => ?_)
  rotate_left
  · have hi : i < 0 := Int32.not_le.mp hi
    refine xr_icm1 dX9_state_11 ?_
    refine xr_iret dX9_state_12 rfl rfl ⟨by simp [sp_state, hr, hi], by simpa [sp_state, hr, hi] using h, mfr.rf⟩
  have hi : ¬ i < 0 := Int32.not_lt.mpr hi
  refine xr_aload0 dX9_state_13 rfl ?_
  refine xr_getR dX9_state_14 fk_9_13 lay_77 rfl ?_
  refine xr_iload1 dX9_state_17 rfl ?_
  refine xr_iald _ dX9_state_18 lay_79 (by (try simp only [k_0, k_1, k_2, k_3, k_4, k_5, k_8, k_16, k_34, k_40, k_200, k_201, k_256, k_512, nI_add, pk_mul]); first | done | rfl) (by omega) (by decide) ?_
  cases hs : S.1 r' with
  | none =>
    rw [hs] at h1
    rw [show I 79 r' = -1 from h1]
    refine xr_if_ge 25 dX9_state_19 (by decide) (fun hn => ?_) (fun hn => ?_)
    · exact absurd hn (by decide)
    · refine xr_bip bi_m3 dX9_state_22 ?_
      refine xr_iret dX9_state_24 rfl rfl ⟨by simp [sp_state, hr, hi, hs], by simpa [sp_state, hr, hi, hs] using h, mfr.rf⟩
  | some q =>
    rw [hs] at h1
    obtain ⟨a1, a2, a3, a4, a5⟩ := h1
    rw [a4]
    refine xr_if_ge 25 dX9_state_19 (by decide) (fun hn => ?_) (fun hn => ?_)
    rotate_left
    · exact absurd (nI_pos' (by omega)) hn
    have hii : i = nI (w2n i) := (nI_w2n hi).symm
    have hib : w2n i < 2 ^ 31 := by have := Int32.toInt_lt i; unfold w2n; omega
    have e : sp_state S (nI r') i = if stB (mK S.2.1) q (w2n i) = false then (-1, S) else if mN S.2.1 = 8 then (-2, S) else (nI (mN S.2.1), (S.1, addSt S.2.1 q (w2n i), S.2.2)) := by simp [sp_state, hr, hi, hs]
    -- what is read for a letter
    have rd : ∀ {x : Nat}, x < mK S.2.1 → w2n i + 2 * x + 1 < q.2.1 → I 80 (40 * r' + w2n i + 2 * x) = stW q (w2n i) x ∧ I 80 (40 * r' + w2n i + 2 * x + 1) = stG q (w2n i) x := fun {x} _ hh => by
      rw [stW, stG, if_pos hh, if_pos hh, show 40 * r' + w2n i + 2 * x + 1 = 40 * r' + (w2n i + 2 * x + 1) by omega, show 40 * r' + w2n i + 2 * x = 40 * r' + (w2n i + 2 * x) by omega]
      exact ⟨a5 _ (by omega), a5 _ (by omega)⟩
    -- the second loop
    have L2 : stB (mK S.2.1) q (w2n i) = true → mN S.2.1 < 8 → ∀ x, x ≤ mK S.2.1 → ∀ I1 (z3 : Int32) (z5 z6 z7 : Option Value), mfx [81, 82] [] I I1 → (∀ j, (j < 4 * mN S.2.1 ∨ 4 * mN S.2.1 + 4 ≤ j) → I1 81 j = I 81 j ∧ I1 82 j = I 82 j) → (∀ x', x' < x → I1 81 (4 * mN S.2.1 + x') = stW q (w2n i) x' ∧ I1 82 (4 * mN S.2.1 + x') = stG q (w2n i) x') → xT G M_X9_state (xMQ G (xpi fun v I' J' => v = (sp_state S (nI r') i).1 ∧ mIv I' (sp_state S (nI r') i).2 ∧ mfr I J I' J')) 193 [some (.ref (G.1 77)), some (.int (nI r')), some (.int i), some (.int z3), some (.int (nI x)), z5, z6, z7] [] I1 J := by
      intro hgood hn8
      have e2 : sp_state S (nI r') i = (nI (mN S.2.1), (S.1, addSt S.2.1 q (w2n i), S.2.2)) := by rw [e, hgood, if_neg (by decide), if_neg (by omega)]
      refine x_for (fun x hx IH I1 z3 z5 z6 z7 f1 ho hd => ?_)
      have hK1 : I1 77 3 = nI (mK S.2.1) := (f1.2 3 (by decide)).trans hK
      have hN1 : I1 77 4 = nI (mN S.2.1) := (f1.2 4 (by decide)).trans hN
      have h79 : I1 79 r' = nI q.2.1 := by rw [f1.1 79 (by decide) (by decide)]; exact a4
      have h80 : I1 80 = I 80 := f1.1 80 (by decide) (by decide)
      refine xr_iload dX9_state_193 rfl ?_
      refine xr_aload0 dX9_state_195 rfl ?_
      refine xr_getIv dX9_state_196 fk_9_19 lay_77 rfl hK1 ?_
      refine xr_icmp_ge 317 dX9_state_199 (by decide) (fun hc => ?_) (fun hc => ?_)
      · have : x = mK S.2.1 := by have := nle hc; omega
        subst this
        refine xr_aload0 dX9_state_317 rfl ?_
        refine xr_dup dX9_state_318 rfl ?_
        refine xr_getIv dX9_state_319 fk_9_116 lay_77 rfl hN1 ?_
        refine xr_ic1 dX9_state_322 ?_
        refine xr_iadd dX9_state_323 ?_
        refine xr_putI dX9_state_324 fp_9_116 lay_77 rfl ?_
        rw [k_1, nI_add]
        refine xr_aload0 dX9_state_327 rfl ?_
        refine xr_getIv dX9_state_328 fk_9_116 lay_77 rfl (show _ = nI (mN S.2.1 + 1) by rw [up_same, upd_same]) ?_
        refine xr_ic1 dX9_state_331 ?_
        refine xr_isub dX9_state_332 ?_
        rw [k_1, pk_sub (by omega), Nat.add_sub_cancel]
        have f2 : mfx [81, 82] [4] I (va_up I1 77 (upd (I1 77) 4 (nI (mN S.2.1 + 1)))) := (f1.mono (fun a h => h) (fun a h => by cases h)).up7 _ (by decide)
        refine xr_iret dX9_state_333 rfl rfl ⟨by rw [e2], ?_, f2.fr (by decide) rfl⟩
        rw [e2]
        refine ⟨f2.sh h.1 (by decide), ⟨⟨hK2, hK4, by show mN S.2.1 + 1 ≤ 8; omega, fun s x h1 h2 => ?_⟩, ?_, ?_, fun s x h1 h2 => ?_⟩, fun w hw => ?_⟩
        · show (if s = mN S.2.1 then w2n (stW q (w2n i) x) else mWr S.2.1 s x) < mK S.2.1 ∧ ∀ g, (if s = mN S.2.1 then i2o (stG q (w2n i) x) else mGo S.2.1 s x) = some g → g < 8
          have h1 : s < mN S.2.1 + 1 := h1
          have h2 : x < mK S.2.1 := h2
          by_cases es : s = mN S.2.1
          · rw [if_pos es, if_pos es]
            obtain ⟨b1, b2, b3, b4⟩ := stB_iff.mp hgood x h2
            refine ⟨w2n_lt b1 b2, fun g hg => ?_⟩
            obtain ⟨g1, g2⟩ := i2o_some hg
            rw [g1]; exact w2n_lt (by rw [lt_toInt, ti_0] at g2; omega) (by omega)
          · rw [if_neg es, if_neg es]
            exact hok s x (by omega) h2
        · show va_up I1 77 _ 77 3 = nI (mK S.2.1)
          rw [f2.2 3 (by decide)]; exact hK
        · show va_up I1 77 _ 77 4 = nI (mN S.2.1 + 1)
          rw [up_same, upd_same]
        · show _ = nI (if s = mN S.2.1 then w2n (stW q (w2n i) x) else mWr S.2.1 s x) ∧ _ = oI (if s = mN S.2.1 then i2o (stG q (w2n i) x) else mGo S.2.1 s x)
          have h1 : s < mN S.2.1 + 1 := h1
          have h2 : x < mK S.2.1 := h2
          rw [va_up_ne _ _ (show 81 ≠ 77 by decide), va_up_ne _ _ (show 82 ≠ 77 by decide)]
          by_cases es : s = mN S.2.1
          · rw [if_pos es, if_pos es, es, (hd x h2).1, (hd x h2).2]
            obtain ⟨b1, b2, b3, b4⟩ := stB_iff.mp hgood x h2
            exact ⟨(nI_w2n (by rw [lt_toInt, ti_0]; omega)).symm, (oI_i2o (by rw [le_toInt, ti_m1]; omega)).symm⟩
          · rw [if_neg es, if_neg es, (ho _ (by omega)).1, (ho _ (by omega)).2]
            exact hwg s x (by omega) h2
        · obtain ⟨⟨w1, w2⟩, w3, w4, w5⟩ := h.2.2 w hw
          refine ⟨⟨by rw [f2.1 84 (by decide) (by decide)]; exact w1, fun j hj => by rw [f2.1 83 (by decide) (by decide)]; exact w2 j hj⟩, w3, w4, fun m hm => ?_⟩
          obtain ⟨o1, o2⟩ := w5 m hm
          refine ⟨by show m / 2 < mN S.2.1 + 1; omega, fun q1 => ?_⟩
          obtain ⟨T, t1, t2⟩ := o2 q1
          refine ⟨T, t1, fun t ht => ?_⟩
          obtain ⟨u1, u2, u3⟩ := t2 t ht
          have et : t ≠ mN S.2.1 := by omega
          refine ⟨by show t < mN S.2.1 + 1; omega, fun a b ha hb => ?_, fun a ha g hg => ?_⟩
          · show (if t = mN S.2.1 then _ else mWr S.2.1 t a) ≠ (if t = mN S.2.1 then _ else mWr S.2.1 t b)
            rw [if_neg et, if_neg et]; exact u2 a b ha hb
          · have hg : (if t = mN S.2.1 then _ else mGo S.2.1 t a) = some g := hg
            rw [if_neg et] at hg
            exact u3 a ha g hg
      · have hxK := nlt hc
        have IH := IH hxK
        refine xr_iload2 dX9_state_202 rfl ?_
        refine xr_i2l dX9_state_203 ?_
        refine xr_ic2 dX9_state_204 ?_
        refine xr_iload dX9_state_205 rfl ?_
        refine xr_imul dX9_state_207 ?_
        refine xr_i2l dX9_state_208 ?_
        refine xr_ladd dX9_state_209 ?_
        refine xr_lc1 dX9_state_210 ?_
        show xT _ _ _ 211 _ _ _ _
        refine xr_ladd dX9_state_211 ?_
        refine xr_aload0 dX9_state_212 rfl ?_
        refine xr_getR dX9_state_213 fk_9_13 lay_77 rfl ?_
        refine xr_iload1 dX9_state_216 rfl ?_
        refine xr_ialdv r' dX9_state_217 lay_79 rfl hr4 (by decide) h79 ?_
        refine xr_i2l dX9_state_218 ?_
        refine xr_lcmp dX9_state_219 ?_
        have body : ∀ b : Bool, (b = true ↔ w2n i + 2 * x + 1 < q.2.1) → xT G M_X9_state (xMQ G (xpi fun v I' J' => v = (sp_state S (nI r') i).1 ∧ mIv I' (sp_state S (nI r') i).2 ∧ mfr I J I' J')) 228 [some (.ref (G.1 77)), some (.int (nI r')), some (.int i), some (.int z3), some (.int (nI x)), z5, z6, z7] [.int (b2 b)] I1 J := by
          intro b hb
          refine xr_istore dX9_state_228 (Nat.le_of_ble_eq_true rfl) ?_
          show xT _ _ _ 230 [_, _, _, _, _, _, _, _] _ _ _
          refine xr_aload0 dX9_state_230 rfl ?_
          refine xr_getR dX9_state_231 fk_9_23 lay_77 rfl ?_
          refine xr_ic4 dX9_state_234 ?_
          refine xr_aload0 dX9_state_235 rfl ?_
          refine xr_getIv dX9_state_236 fk_9_116 lay_77 rfl hN1 ?_
          refine xr_imul dX9_state_239 ?_
          refine xr_iload dX9_state_240 rfl ?_
          show xT _ _ _ 242 _ _ _ _
          refine xr_iadd dX9_state_242 ?_
          have J310 : ∀ I2, mfx [81, 82] [] I I2 → (∀ j, (j < 4 * mN S.2.1 ∨ 4 * mN S.2.1 + 4 ≤ j) → I2 81 j = I 81 j ∧ I2 82 j = I 82 j) → (∀ x', x' < x → I2 81 (4 * mN S.2.1 + x') = stW q (w2n i) x' ∧ I2 82 (4 * mN S.2.1 + x') = stG q (w2n i) x') → I2 81 (4 * mN S.2.1 + x) = stW q (w2n i) x → ∀ v, v = stG q (w2n i) x → xT G M_X9_state (xMQ G (xpi fun v I' J' => v = (sp_state S (nI r') i).1 ∧ mIv I' (sp_state S (nI r') i).2 ∧ mfr I J I' J')) 310 [some (.ref (G.1 77)), some (.int (nI r')), some (.int i), some (.int z3), some (.int (nI x)), some (.int (b2 b)), z6, z7] [.int v, .int (4 * nI (mN S.2.1) + nI x), .ref (G.1 82)] I2 J := by
            intro I2 f2 ho2 hd2 hw2 v hv
            refine xr_iast _ dX9_state_310 lay_82 (by (try simp only [k_0, k_1, k_2, k_3, k_4, k_5, k_8, k_16, k_34, k_40, k_200, k_201, k_256, k_512, nI_add, pk_mul]); first | done | rfl) (by omega) (by decide) ?_
            refine xr_iinc dX9_state_311 rfl ii_1 (Nat.le_of_ble_eq_true rfl) ?_
            show xT _ _ _ 314 [_, _, _, _, _, _, _, _] _ _ _
            refine xr_goto 193 dX9_state_314 (by decide) ?_
            rw [k_1, nI_add]
            refine IH _ _ _ _ _ (f2.up _ (by decide) (by decide)) (fun j hj => ?_) (fun x' hx' => ?_)
            · rw [up_same, va_up_ne _ _ (by decide), upd_ne _ _ (by omega)]
              exact ho2 j hj
            · rw [up_same, va_up_ne _ _ (by decide)]
              by_cases ex : x' = x
              · subst ex; rw [upd_same]; exact ⟨hw2, hv⟩
              · rw [upd_ne _ _ (by omega)]; exact hd2 x' (by omega)
          have J269 : ∀ v, v = stW q (w2n i) x → xT G M_X9_state (xMQ G (xpi fun v I' J' => v = (sp_state S (nI r') i).1 ∧ mIv I' (sp_state S (nI r') i).2 ∧ mfr I J I' J')) 269 [some (.ref (G.1 77)), some (.int (nI r')), some (.int i), some (.int z3), some (.int (nI x)), some (.int (b2 b)), z6, z7] [.int v, .int (4 * nI (mN S.2.1) + nI x), .ref (G.1 81)] I1 J := by
            intro v hv
            refine xr_iast _ dX9_state_269 lay_81 (by (try simp only [k_0, k_1, k_2, k_3, k_4, k_5, k_8, k_16, k_34, k_40, k_200, k_201, k_256, k_512, nI_add, pk_mul]); first | done | rfl) (by omega) (by decide) ?_
            refine xr_aload0 dX9_state_270 rfl ?_
            refine xr_getR dX9_state_271 fk_9_26 lay_77 rfl ?_
            refine xr_ic4 dX9_state_274 ?_
            refine xr_aload0 dX9_state_275 rfl ?_
            simp only [k_4, pk_mul, nI_add]
            generalize hI2 : va_up I1 81 (upd (I1 81) (4 * mN S.2.1 + x) v) = I2
            have f2 : mfx [81, 82] [] I I2 := by rw [← hI2]; exact f1.up _ (by decide) (by decide)
            have ho2 : ∀ j, (j < 4 * mN S.2.1 ∨ 4 * mN S.2.1 + 4 ≤ j) → I2 81 j = I 81 j ∧ I2 82 j = I 82 j := fun j hj => by
              rw [← hI2, up_same, va_up_ne _ _ (by decide), upd_ne _ _ (by omega)]; exact ho j hj
            have hd2 : ∀ x', x' < x → I2 81 (4 * mN S.2.1 + x') = stW q (w2n i) x' ∧ I2 82 (4 * mN S.2.1 + x') = stG q (w2n i) x' := fun x' hx' => by
              rw [← hI2, up_same, va_up_ne _ _ (by decide), upd_ne _ _ (by omega)]; exact hd x' hx'
            have hw2 : I2 81 (4 * mN S.2.1 + x) = stW q (w2n i) x := by rw [← hI2, up_same, upd_same, hv]
            have hN2 : I2 77 4 = nI (mN S.2.1) := (f2.2 4 (by decide)).trans hN
            have h82 : I2 80 = I 80 := f2.1 80 (by decide) (by decide)
            refine xr_getIv dX9_state_276 fk_9_116 lay_77 rfl hN2 ?_
            refine xr_imul dX9_state_279 ?_
            refine xr_iload dX9_state_280 rfl ?_
            refine xr_iadd dX9_state_282 ?_
            refine xr_iload dX9_state_283 rfl ?_
            refine xr_if_eq 309 dX9_state_285 (by decide) (fun hb0 => ?_) (fun hb0 => ?_)
            · have hb0 := b2_0.mp hb0
              refine xr_icm1 dX9_state_309 ?_
              exact J310 I2 f2 ho2 hd2 hw2 _ (by rw [stG, if_neg (fun q => by rw [hb.mpr q] at hb0; cases hb0)])
            · have hb0 : w2n i + 2 * x + 1 < q.2.1 := by
                apply hb.mp
                cases b with
                | true => rfl
                | false => exact absurd rfl hb0
              refine xr_aload0 dX9_state_288 rfl ?_
              refine xr_getR dX9_state_289 fk_9_16 lay_77 rfl ?_
              refine xr_bip bi_40 dX9_state_292 ?_
              refine xr_iload1 dX9_state_294 rfl ?_
              refine xr_imul dX9_state_295 ?_
              refine xr_iload2 dX9_state_296 rfl ?_
              refine xr_iadd dX9_state_297 ?_
              refine xr_ic2 dX9_state_298 ?_
              show xT _ _ _ 299 _ _ _ _
              refine xr_iload dX9_state_299 rfl ?_
              refine xr_imul dX9_state_301 ?_
              refine xr_iadd dX9_state_302 ?_
              refine xr_ic1 dX9_state_303 ?_
              refine xr_iadd dX9_state_304 ?_
              refine xr_iald (40 * r' + w2n i + 2 * x + 1) dX9_state_305 lay_80 (by rw [hii, w2n_nI hib]; simp only [k_40, k_2, k_1, pk_mul, nI_add]) (by omega) (by decide) ?_
              rw [h82, (rd hxK hb0).2]
              refine xr_goto 310 dX9_state_306 (by decide) ?_
              exact J310 I2 f2 ho2 hd2 hw2 _ rfl
          refine xr_iload dX9_state_243 rfl ?_
          refine xr_if_eq 267 dX9_state_245 (by decide) (fun hb0 => ?_) (fun hb0 => ?_)
          · have hb0 := b2_0.mp hb0
            refine xr_iload dX9_state_267 rfl ?_
            exact J269 _ (by rw [stW, if_neg (fun q => by rw [hb.mpr q] at hb0; cases hb0)])
          · have hb0 : w2n i + 2 * x + 1 < q.2.1 := by
              apply hb.mp
              cases b with
              | true => rfl
              | false => exact absurd rfl hb0
            refine xr_aload0 dX9_state_248 rfl ?_
            refine xr_getR dX9_state_249 fk_9_16 lay_77 rfl ?_
            refine xr_bip bi_40 dX9_state_252 ?_
            refine xr_iload1 dX9_state_254 rfl ?_
            refine xr_imul dX9_state_255 ?_
            refine xr_iload2 dX9_state_256 rfl ?_
            refine xr_iadd dX9_state_257 ?_
            refine xr_ic2 dX9_state_258 ?_
            show xT _ _ _ 259 _ _ _ _
            refine xr_iload dX9_state_259 rfl ?_
            refine xr_imul dX9_state_261 ?_
            refine xr_iadd dX9_state_262 ?_
            refine xr_iald (40 * r' + w2n i + 2 * x) dX9_state_263 lay_80 (by rw [hii, w2n_nI hib]; simp only [k_40, k_2, k_1, pk_mul, nI_add]) (by omega) (by decide) ?_
            rw [h80, (rd hxK hb0).1]
            refine xr_goto 269 dX9_state_264 (by decide) ?_
            exact J269 _ rfl
        refine xr_if_ge 227 dX9_state_220 (by decide) (fun hl => ?_) (fun hl => ?_)
        · skip
          refine xr_ic0 dX9_state_227 ?_
          exact body false ⟨fun q => (by cases q), fun q => absurd ((st_has hi (by omega) a2).mpr q) (Int64.not_lt.mpr ((lg_cmp_ge _ _).mp hl))⟩
        · skip
          refine xr_ic1 dX9_state_223 ?_
          refine xr_goto 228 dX9_state_224 (by decide) ?_
          refine body true ⟨fun _ => (st_has hi (by omega) a2).mp ?_, fun _ => rfl⟩
          exact Int64.not_le.mp (fun q => hl ((lg_cmp_ge _ _).mpr q))
    -- the first loop
    have L1 : ∀ x, x ≤ mK S.2.1 → ∀ (b : Bool) (z5 z6 z7 : Option Value), (b = true ↔ ∀ x', x' < x → stOk (mK S.2.1) q (w2n i) x') → xT G M_X9_state (xMQ G (xpi fun v I' J' => v = (sp_state S (nI r') i).1 ∧ mIv I' (sp_state S (nI r') i).2 ∧ mfr I J I' J')) 30 [some (.ref (G.1 77)), some (.int (nI r')), some (.int i), some (.int (b2 b)), some (.int (nI x)), z5, z6, z7] [] I J := by
      refine x_for (fun x hx IH b z5 z6 z7 hb => ?_)
      refine xr_iload dX9_state_30 rfl ?_
      refine xr_aload0 dX9_state_32 rfl ?_
      refine xr_getIv dX9_state_33 fk_9_19 lay_77 rfl hK ?_
      refine xr_icmp_ge 172 dX9_state_36 (by decide) (fun hc => ?_) (fun hc => ?_)
      · have : x = mK S.2.1 := by have := nle hc; omega
        subst this
        refine xr_iload3 dX9_state_172 rfl ?_
        refine xr_if_ne 178 dX9_state_173 (by decide) (fun hb0 => ?_) (fun hb0 => ?_)
        rotate_left
        · have hb0 := b2_0.mp hb0
          refine xr_icm1 dX9_state_176 ?_
          have hq : stB (mK S.2.1) q (w2n i) = false := by
            cases hq : stB (mK S.2.1) q (w2n i) with
            | false => rfl
            | true => rw [hb.mpr (stB_iff.mp hq)] at hb0; cases hb0
          refine xr_iret dX9_state_177 rfl rfl ⟨by rw [e, if_pos hq], by rw [e, if_pos hq]; exact h, mfr.rf⟩
        · have hb1 : b = true := by
            cases b with
            | true => rfl
            | false => exact absurd rfl hb0
          have hq : stB (mK S.2.1) q (w2n i) = true := stB_iff.mpr (hb.mp hb1)
          refine xr_aload0 dX9_state_178 rfl ?_
          refine xr_getIv dX9_state_179 fk_9_116 lay_77 rfl hN ?_
          refine xr_bip bi_8 dX9_state_182 ?_
          rw [k_8]
          refine xr_icmp_ne 190 dX9_state_184 (by decide) (fun h8 => ?_) (fun h8 => ?_)
          rotate_left
          · have h8 : mN S.2.1 = 8 := (nI_eq (by omega) (by decide)).mp h8
            refine xr_bip bi_m2 dX9_state_187 ?_
            have e2 : sp_state S (nI r') i = (-2, S) := by rw [e, hq, if_neg (by decide), if_pos h8]
            refine xr_iret dX9_state_189 rfl rfl ⟨by rw [e2], by rw [e2]; exact h, mfr.rf⟩
          · have h8 : mN S.2.1 < 8 := by
              have : mN S.2.1 ≠ 8 := fun q => h8 (by rw [q])
              omega
            refine xr_ic0 dX9_state_190 ?_
            refine xr_istore dX9_state_191 (Nat.le_of_ble_eq_true rfl) ?_
            show xT _ _ _ 193 [_, _, _, _, _, _, _, _] _ _ _
            exact L2 hq h8 0 (by omega) I _ _ _ _ mfx.rf (fun _ _ => ⟨rfl, rfl⟩) (fun x' h => by omega)
      · have hxK := nlt hc
        have IH := IH hxK
        have J165 : ∀ (z5 z6 z7 : Option Value) (b' : Bool), (b' = true ↔ (b = true ∧ stOk (mK S.2.1) q (w2n i) x)) → xT G M_X9_state (xMQ G (xpi fun v I' J' => v = (sp_state S (nI r') i).1 ∧ mIv I' (sp_state S (nI r') i).2 ∧ mfr I J I' J')) 165 [some (.ref (G.1 77)), some (.int (nI r')), some (.int i), some (.int (b2 b)), some (.int (nI x)), z5, z6, z7] [.int (b2 b')] I J := by
          intro z5 z6 z7 b' hb'
          refine xr_istore3 dX9_state_165 (Nat.le_of_ble_eq_true rfl) ?_
          show xT _ _ _ 166 [_, _, _, _, _, _, _, _] _ _ _
          refine xr_iinc dX9_state_166 rfl ii_1 (Nat.le_of_ble_eq_true rfl) ?_
          show xT _ _ _ 169 [_, _, _, _, _, _, _, _] _ _ _
          refine xr_goto 30 dX9_state_169 (by decide) ?_
          rw [k_1, nI_add]
          refine IH b' _ _ _ (hb'.trans ⟨fun q x' h1 => ?_, fun q => ⟨hb.mpr (fun x' h1 => q x' (by omega)), q x (by omega)⟩⟩)
          by_cases ex : x' = x
          · subst ex; exact q.2
          · exact hb.mp q.1 x' (by omega)
        have J122 : ∀ (z5 z7 : Option Value) (v : Int32), v = stG q (w2n i) x → xT G M_X9_state (xMQ G (xpi fun v I' J' => v = (sp_state S (nI r') i).1 ∧ mIv I' (sp_state S (nI r') i).2 ∧ mfr I J I' J')) 122 [some (.ref (G.1 77)), some (.int (nI r')), some (.int i), some (.int (b2 b)), some (.int (nI x)), z5, some (.int (stW q (w2n i) x)), z7] [.int v] I J := by
          intro z5 z7 v hv
          refine xr_istore dX9_state_122 (Nat.le_of_ble_eq_true rfl) ?_
          show xT _ _ _ 124 [_, _, _, _, _, _, _, _] _ _ _
          refine xr_iload3 dX9_state_124 rfl ?_
          refine xr_if_eq 164 dX9_state_125 (by decide) (fun hb0 => ?_) (fun hb0 => ?_)
          · have hb0 := b2_0.mp hb0
            refine xr_ic0 dX9_state_164 ?_
            exact J165 _ _ _ false ⟨fun q => (by cases q), fun q => by rw [hb0] at q; exact absurd q.1 (by decide)⟩
          · have hb1 : b = true := by
              cases b with
              | true => rfl
              | false => exact absurd rfl hb0
            refine xr_iload dX9_state_128 rfl ?_
            refine xr_i2l dX9_state_130 ?_
            refine xr_lc0 dX9_state_131 ?_
            refine xr_aload0 dX9_state_132 rfl ?_
            refine xr_getIv dX9_state_133 fk_9_19 lay_77 rfl hK ?_
            refine xr_ic1 dX9_state_136 ?_
            refine xr_isub dX9_state_137 ?_
            refine xr_i2l dX9_state_138 ?_
            show xT _ _ _ 139 _ _ _ _
            refine xr_cSi [_, _, _] dX9_state_139 (xcs_of cf_X9_in ml_9_99 (by decide)) rfl rfl (Nat.le_of_ble_eq_true rfl) (c9_in _ _ _) (fun c I1 J1 hc1 => ?_)
            obtain ⟨rfl, rfl, rfl⟩ := hc1
            refine xr_if_eq 164 dX9_state_142 (by decide) (fun h2 => ?_) (fun h2 => ?_)
            · have h2 := b2d h2
              refine xr_ic0 dX9_state_164 ?_
              refine J165 _ _ _ false ⟨fun q => (by cases q), fun q => absurd ?_ h2⟩
              obtain ⟨-, q1, q2, q3, q4⟩ := q
              rw [Int64.le_iff_toInt_le, Int64.le_iff_toInt_le, Int32.toInt_toInt64, Int32.toInt_toInt64, k_1, pk_sub_toInt (by omega) (by decide)]
              exact ⟨q1, by omega⟩
            · have h2 := b2d' h2
              rw [Int64.le_iff_toInt_le, Int64.le_iff_toInt_le, Int32.toInt_toInt64, Int32.toInt_toInt64, k_1, pk_sub_toInt (by omega) (by decide)] at h2
              have h20 : (0 : Int64).toInt = 0 := by decide
              rw [h20] at h2
              refine xr_iload dX9_state_145 rfl ?_
              refine xr_i2l dX9_state_147 ?_
              refine xr_ldc2 cs_9_119 dX9_state_148 ?_
              refine xr_ldc2 cs_9_103 dX9_state_151 ?_
              refine xr_cSi [_, _, _] dX9_state_154 (xcs_of cf_X9_in ml_9_99 (by decide)) rfl rfl (Nat.le_of_ble_eq_true rfl) (c9_in _ _ _) (fun c I1 J1 hc1 => ?_)
              obtain ⟨rfl, rfl, rfl⟩ := hc1
              rw [in_le (lo := -1) (hi := 7) (by decide) (by decide)]
              refine xr_if_eq 164 dX9_state_157 (by decide) (fun h3 => ?_) (fun h3 => ?_)
              · have h3 := b2d h3
                refine xr_ic0 dX9_state_164 ?_
                refine J165 _ _ _ false ⟨fun q => (by cases q), fun q => absurd ?_ h3⟩
                obtain ⟨-, q1, q2, q3, q4⟩ := q
                rw [le_toInt, le_toInt, ti_m1, ti_7, hv]
                exact ⟨q3, q4⟩
              · have h3 := b2d' h3
                rw [le_toInt, le_toInt, ti_m1, ti_7, hv] at h3
                refine xr_ic1 dX9_state_160 ?_
                refine xr_goto 165 dX9_state_161 (by decide) ?_
                exact J165 _ _ _ true ⟨fun _ => ⟨hb1, h2.1, by omega, h3.1, h3.2⟩, fun _ => rfl⟩
        have J93 : ∀ (z6 z7 : Option Value) (b' : Bool) (v : Int32), (b' = true ↔ w2n i + 2 * x + 1 < q.2.1) → v = stW q (w2n i) x → xT G M_X9_state (xMQ G (xpi fun v I' J' => v = (sp_state S (nI r') i).1 ∧ mIv I' (sp_state S (nI r') i).2 ∧ mfr I J I' J')) 93 [some (.ref (G.1 77)), some (.int (nI r')), some (.int i), some (.int (b2 b)), some (.int (nI x)), some (.int (b2 b')), z6, z7] [.int v] I J := by
          intro z6 z7 b' v hb' hv
          subst hv
          refine xr_istore dX9_state_93 (Nat.le_of_ble_eq_true rfl) ?_
          show xT _ _ _ 95 [_, _, _, _, _, _, _, _] _ _ _
          refine xr_iload dX9_state_95 rfl ?_
          refine xr_if_eq 121 dX9_state_97 (by decide) (fun hb0 => ?_) (fun hb0 => ?_)
          · have hb0 := b2_0.mp hb0
            refine xr_icm1 dX9_state_121 ?_
            exact J122 _ _ _ (by rw [stG, if_neg (fun q => by rw [hb'.mpr q] at hb0; cases hb0)])
          · have hb0 : w2n i + 2 * x + 1 < q.2.1 := by
              apply hb'.mp
              cases b' with
              | true => rfl
              | false => exact absurd rfl hb0
            refine xr_aload0 dX9_state_100 rfl ?_
            refine xr_getR dX9_state_101 fk_9_16 lay_77 rfl ?_
            refine xr_bip bi_40 dX9_state_104 ?_
            refine xr_iload1 dX9_state_106 rfl ?_
            refine xr_imul dX9_state_107 ?_
            refine xr_iload2 dX9_state_108 rfl ?_
            refine xr_iadd dX9_state_109 ?_
            refine xr_ic2 dX9_state_110 ?_
            show xT _ _ _ 111 _ _ _ _
            refine xr_iload dX9_state_111 rfl ?_
            refine xr_imul dX9_state_113 ?_
            refine xr_iadd dX9_state_114 ?_
            refine xr_ic1 dX9_state_115 ?_
            refine xr_iadd dX9_state_116 ?_
            refine xr_iald (40 * r' + w2n i + 2 * x + 1) dX9_state_117 lay_80 (by rw [hii, w2n_nI hib]; simp only [k_40, k_2, k_1, pk_mul, nI_add]) (by omega) (by decide) ?_
            refine xr_goto 122 dX9_state_118 (by decide) ?_
            exact J122 _ _ _ (rd hxK hb0).2
        have J65 : ∀ (b' : Bool), (b' = true ↔ w2n i + 2 * x + 1 < q.2.1) → xT G M_X9_state (xMQ G (xpi fun v I' J' => v = (sp_state S (nI r') i).1 ∧ mIv I' (sp_state S (nI r') i).2 ∧ mfr I J I' J')) 65 [some (.ref (G.1 77)), some (.int (nI r')), some (.int i), some (.int (b2 b)), some (.int (nI x)), z5, z6, z7] [.int (b2 b')] I J := by
          intro b' hb'
          refine xr_istore dX9_state_65 (Nat.le_of_ble_eq_true rfl) ?_
          show xT _ _ _ 67 [_, _, _, _, _, _, _, _] _ _ _
          refine xr_iload dX9_state_67 rfl ?_
          refine xr_if_eq 91 dX9_state_69 (by decide) (fun hb0 => ?_) (fun hb0 => ?_)
          · have hb0 := b2_0.mp hb0
            refine xr_iload dX9_state_91 rfl ?_
            exact J93 _ _ b' _ hb' (by rw [stW, if_neg (fun q => by rw [hb'.mpr q] at hb0; cases hb0)])
          · have hb0 : w2n i + 2 * x + 1 < q.2.1 := by
              apply hb'.mp
              cases b' with
              | true => rfl
              | false => exact absurd rfl hb0
            refine xr_aload0 dX9_state_72 rfl ?_
            refine xr_getR dX9_state_73 fk_9_16 lay_77 rfl ?_
            refine xr_bip bi_40 dX9_state_76 ?_
            refine xr_iload1 dX9_state_78 rfl ?_
            refine xr_imul dX9_state_79 ?_
            refine xr_iload2 dX9_state_80 rfl ?_
            refine xr_iadd dX9_state_81 ?_
            refine xr_ic2 dX9_state_82 ?_
            show xT _ _ _ 83 _ _ _ _
            refine xr_iload dX9_state_83 rfl ?_
            refine xr_imul dX9_state_85 ?_
            refine xr_iadd dX9_state_86 ?_
            refine xr_iald (40 * r' + w2n i + 2 * x) dX9_state_87 lay_80 (by rw [hii, w2n_nI hib]; simp only [k_40, k_2, k_1, pk_mul, nI_add]) (by omega) (by decide) ?_
            refine xr_goto 93 dX9_state_88 (by decide) ?_
            exact J93 _ _ b' _ hb' (rd hxK hb0).1
        refine xr_iload2 dX9_state_39 rfl ?_
        refine xr_i2l dX9_state_40 ?_
        refine xr_ic2 dX9_state_41 ?_
        refine xr_iload dX9_state_42 rfl ?_
        refine xr_imul dX9_state_44 ?_
        refine xr_i2l dX9_state_45 ?_
        refine xr_ladd dX9_state_46 ?_
        refine xr_lc1 dX9_state_47 ?_
        show xT _ _ _ 48 _ _ _ _
        refine xr_ladd dX9_state_48 ?_
        refine xr_aload0 dX9_state_49 rfl ?_
        refine xr_getR dX9_state_50 fk_9_13 lay_77 rfl ?_
        refine xr_iload1 dX9_state_53 rfl ?_
        refine xr_ialdv r' dX9_state_54 lay_79 rfl hr4 (by decide) a4 ?_
        refine xr_i2l dX9_state_55 ?_
        refine xr_lcmp dX9_state_56 ?_
        refine xr_if_ge 64 dX9_state_57 (by decide) (fun hl => ?_) (fun hl => ?_)
        · skip
          refine xr_ic0 dX9_state_64 ?_
          exact J65 false ⟨fun q => (by cases q), fun q => absurd ((st_has hi (by omega) a2).mpr q) (Int64.not_lt.mpr ((lg_cmp_ge _ _).mp hl))⟩
        · skip
          refine xr_ic1 dX9_state_60 ?_
          refine xr_goto 65 dX9_state_61 (by decide) ?_
          refine J65 true ⟨fun _ => (st_has hi (by omega) a2).mp ?_, fun _ => rfl⟩
          exact Int64.not_le.mp (fun q => hl ((lg_cmp_ge _ _).mpr q))
    refine xr_ic1 dX9_state_25 ?_
    refine xr_istore3 dX9_state_26 (Nat.le_of_ble_eq_true rfl) ?_
    show xT _ _ _ 27 [_, _, _, _, _, _, _, _] _ _ _
    refine xr_ic0 dX9_state_27 ?_
    refine xr_istore dX9_state_28 (Nat.le_of_ble_eq_true rfl) ?_
    show xT _ _ _ 30 [_, _, _, _, _, _, _, _] _ _ _
    exact L1 0 (by omega) true _ _ _ ⟨fun _ x' h => by omega, fun _ => rfl⟩
end M07
