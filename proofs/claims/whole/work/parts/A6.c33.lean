section C33
variable {G : xG} {I : xI} {J : xJ}
/-- the members stand in blocks of one group H, each begun by a row -/
def gBl (N : Nat) (gens H ms : List (List Nat)) (rs : List (List Nat)) : Prop := ms.length = rs.length * H.length ∧ (∀ k i (hk : k < rs.length) (hi : i < H.length), ms[k * H.length + i]? = some (gmul H[i] rs[k])) ∧ (∀ r ∈ rs, gC N gens r) ∧ rs[0]? = some (List.range N)
theorem gBl.mem {N : Nat} {gens H ms rs : List (List Nat)} (b : gBl N gens H ms rs) {x : List Nat} : x ∈ ms ↔ ∃ r ∈ rs, ∃ h ∈ H, x = gmul h r := by
  obtain ⟨b1, b2, -, -⟩ := b
  constructor
  · intro hx
    obtain ⟨j, hj, rfl⟩ := List.getElem_of_mem hx
    have hH : 0 < H.length := by
      rcases Nat.eq_zero_or_pos H.length with e | e
      · rw [e, Nat.mul_zero] at b1; omega
      · exact e
    have hk : j / H.length < rs.length := by rw [Nat.div_lt_iff_lt_mul hH, ← b1]; exact hj
    have hi : j % H.length < H.length := Nat.mod_lt _ hH
    have := b2 (j / H.length) (j % H.length) hk hi
    rw [Nat.mul_comm, Nat.div_add_mod, List.getElem?_eq_getElem hj] at this
    exact ⟨_, List.getElem_mem hk, _, List.getElem_mem hi, Option.some.inj this⟩
  · rintro ⟨r, hr, h, hh, rfl⟩
    obtain ⟨k, hk, rfl⟩ := List.getElem_of_mem hr
    obtain ⟨i, hi, rfl⟩ := List.getElem_of_mem hh
    exact List.mem_of_getElem? (b2 k i hk hi)
theorem gBl.add {N : Nat} {gens H ms rs : List (List Nat)} (b : gBl N gens H ms rs) {x : List Nat} (hx : gC N gens x) : gBl N gens H (ms ++ H.map (fun a => gmul a x)) (rs ++ [x]) := by
  obtain ⟨b1, b2, b3, b4⟩ := b
  refine ⟨by rw [List.length_append, List.length_map, List.length_append, List.length_singleton, Nat.add_mul, Nat.one_mul, b1], fun k i hk hi => ?_, fun r hr => ?_, ?_⟩
  · rw [List.length_append, List.length_singleton] at hk
    rcases Nat.lt_or_ge k rs.length with q | q
    · have := b2 k i q hi
      rw [List.getElem?_append_left (List.getElem?_eq_some_iff.mp this).1, this, List.getElem_append_left q]
    · have : k = rs.length := by omega
      subst this
      rw [List.getElem?_append_right (by rw [b1]; omega), b1, Nat.add_sub_cancel_left, List.getElem?_map, List.getElem?_eq_getElem hi]
      simp
  · rcases List.mem_append.mp hr with q | q
    · exact b3 r q
    · rw [List.mem_singleton.mp q]; exact hx
  · rw [List.getElem?_append_left (List.getElem?_eq_some_iff.mp b4).1]; exact b4
theorem c1_bringIn {N : Nat} (hN : N ≤ 16) {H gm : List (List Nat)} (h : cGr I J N H gm) (hgm : ∀ γ ∈ gm, gP N γ) (hH : isGC N gm H) (h0 : H[0]? = some (List.range N)) (hg8 : gm.length < 8) {γ : List Nat} (hγ : gP N γ) : xCon G M_X1_bringIn [.ref (G.1 35), .long (gKey γ)] I J (xpi fun v I' J' => ((v = 1 ∧ ∃ ms gm', cGr I' J' N ms gm' ∧ (∀ γ ∈ gm', gP N γ) ∧ isGC N gm' ms ∧ ms[0]? = some (List.range N) ∧ gm'.length ≤ gm.length + 1 ∧ ∀ g, gC N gm' g ↔ gC N (gm ++ [γ]) g) ∨ (v = 0 ∧ (∃ ms, cGr I' J' N ms (gm ++ [γ])) ∧ ∃ ms : List (List Nat), ms.Nodup ∧ 3000 < ms.length ∧ ∀ g ∈ ms, gC N (gm ++ [γ]) g)) ∧ cfx [35, 36, 37, 38, 39, 40] I J I' J') := by
  have hgm' : ∀ δ ∈ gm ++ [γ], gP N δ := fun δ hδ => by
    rcases List.mem_append.mp hδ with q | q
    · exact hgm δ q
    · rw [List.mem_singleton.mp q]; exact hγ
  have hsub : ∀ g, gC N gm g → gC N (gm ++ [γ]) g := fun g hg => hg.mono hgm' (fun δ hδ => gC.gen hgm' (List.mem_append_left _ hδ))
  have hHp : ∀ a ∈ H, gP N a := h.2.1
  have hB0 : 0 < H.length := by
    rcases Nat.eq_zero_or_pos H.length with e | e
    · rw [List.length_eq_zero_iff.mp e] at h0; cases h0
    · exact e
  obtain ⟨hHl, hHc, -⟩ := h.len
  have hHat : H[0] = List.range N := by rw [List.getElem?_eq_getElem hB0] at h0; exact Option.some.inj h0
  have K55 : ∀ f k, k + f = 3001 → ∀ I1 J1 (ms rs : List (List Nat)) (z5 z6 : Option Value), cfx [35, 36, 37, 38, 39, 40] I J I1 J1 → cGr I1 J1 N ms (gm ++ [γ]) → gBl N (gm ++ [γ]) H ms rs → (∀ i (hi : i < H.length), ms[i]? = some H[i]) → k ≤ rs.length → (∀ k' (hk : k' < rs.length), k' < k → ∀ δ ∈ gm ++ [γ], gmul rs[k'] δ ∈ ms) → xT G M_X1_bringIn (xMQ G (xpi fun v I' J' => ((v = 1 ∧ ∃ ms gm', cGr I' J' N ms gm' ∧ (∀ γ ∈ gm', gP N γ) ∧ isGC N gm' ms ∧ ms[0]? = some (List.range N) ∧ gm'.length ≤ gm.length + 1 ∧ ∀ g, gC N gm' g ↔ gC N (gm ++ [γ]) g) ∨ (v = 0 ∧ (∃ ms, cGr I' J' N ms (gm ++ [γ])) ∧ ∃ ms : List (List Nat), ms.Nodup ∧ 3000 < ms.length ∧ ∀ g ∈ ms, gC N (gm ++ [γ]) g)) ∧ cfx [35, 36, 37, 38, 39, 40] I J I' J')) 55 [some (.ref (G.1 35)), some (.long (gKey γ)), none, some (.int (nI H.length)), some (.int (nI (k * H.length))), z5, z6, none] [] I1 J1 := by
    intro f
    induction f with
    | zero =>
      intro k hk I1 J1 ms rs z5 z6 f1 c1 b1 p1 hkr cl
      have := c1.len.1
      have h2 := b1.1
      have : rs.length * 1 ≤ rs.length * H.length := Nat.mul_le_mul_left _ hB0
      omega
    | succ f IH =>
      intro k hk I1 J1 ms rs z5 z6 f1 c1 b1 p1 hkr cl
      obtain ⟨hml, hmc, hmk⟩ := c1.len
      have hkb : k * H.length ≤ rs.length * H.length := Nat.mul_le_mul_right _ hkr
      have hbl := b1.1
      refine xr_iload dX1_bringIn_55 rfl ?_
      refine xr_aload0 dX1_bringIn_57 rfl ?_
      refine xr_getR dX1_bringIn_58 fk_1_14 lay_35 rfl ?_
      refine xr_getIv dX1_bringIn_61 fk_1_41 lay_36 rfl hmc ?_
      refine xr_icmp_ge 150 dX1_bringIn_64 (by decide) (fun hge => ?_) (fun hge => ?_)
      · have hge := nle hge
        have hkr2 : k = rs.length := by
          rcases Nat.lt_or_ge k rs.length with q | q
          · have : (k + 1) * H.length ≤ rs.length * H.length := Nat.mul_le_mul_right _ q
            rw [Nat.add_mul, Nat.one_mul] at this
            omega
          · omega
        refine xr_ic1 dX1_bringIn_150 ?_
        refine xr_zret dX1_bringIn_151 rfl rfl (by simp) ⟨Or.inl ⟨rfl, ms, gm ++ [γ], c1, hgm', ⟨c1.nodup, fun g => ⟨fun hg => ?_, fun hg => ?_⟩⟩, ?_, by simp, fun g => Iff.rfl⟩, f1⟩
        · obtain ⟨r, hr, a, ha, rfl⟩ := b1.mem.mp hg
          exact (hsub a ((hH.2 a).mp ha)).mul hgm' (b1.2.2.1 r hr)
        · refine hg (fun g => g ∈ ms) ?_ (fun a δ ha hδ => ?_)
          · rw [← hHat]
            exact List.mem_of_getElem? (p1 0 hB0)
          · obtain ⟨r, hr, a', ha', rfl⟩ := b1.mem.mp ha
            obtain ⟨k', hk', rfl⟩ := List.getElem_of_mem hr
            have hrp := (b1.2.2.1 _ (List.getElem_mem hk')).ok hgm'
            rw [gmul_assoc (hHp a' ha') hrp (hgm' δ hδ)]
            obtain ⟨r2, hr2, a2, ha2, e2⟩ := b1.mem.mp (cl k' hk' (by omega) δ hδ)
            have hr2p := (b1.2.2.1 r2 hr2).ok hgm'
            rw [e2, ← gmul_assoc (hHp a' ha') (hHp a2 ha2) hr2p]
            exact b1.mem.mpr ⟨r2, hr2, gmul a' a2, (hH.2 _).mpr (((hH.2 a').mp ha').mul hgm ((hH.2 a2).mp ha2)), rfl⟩
        · rw [p1 0 hB0, hHat]
      have hlt := nlt hge
      have hkl : k < rs.length := by
        rcases Nat.lt_or_ge k rs.length with q | q
        · exact q
        · have : rs.length * H.length ≤ k * H.length := Nat.mul_le_mul_right _ q
          omega
      refine xr_iload dX1_bringIn_67 rfl ?_
      refine xr_sip si_3000 dX1_bringIn_69 ?_
      refine xr_icmp_ge 150 dX1_bringIn_72 (by decide) (fun hge2 => ?_) (fun hge2 => ?_)
      · have := nle (b := 3000) hge2; omega
      have Lj : ∀ j, j ≤ (gm ++ [γ]).length → ∀ I2 J2 (ms rs : List (List Nat)) (z6 : Option Value), cfx [35, 36, 37, 38, 39, 40] I J I2 J2 → cGr I2 J2 N ms (gm ++ [γ]) → gBl N (gm ++ [γ]) H ms rs → (∀ i (hi : i < H.length), ms[i]? = some H[i]) → (hkl : k < rs.length) → (∀ k' (hk : k' < rs.length), k' < k → ∀ δ ∈ gm ++ [γ], gmul rs[k'] δ ∈ ms) → (∀ j' (hj : j' < (gm ++ [γ]).length), j' < j → gmul rs[k] (gm ++ [γ])[j'] ∈ ms) → xT G M_X1_bringIn (xMQ G (xpi fun v I' J' => ((v = 1 ∧ ∃ ms gm', cGr I' J' N ms gm' ∧ (∀ γ ∈ gm', gP N γ) ∧ isGC N gm' ms ∧ ms[0]? = some (List.range N) ∧ gm'.length ≤ gm.length + 1 ∧ ∀ g, gC N gm' g ↔ gC N (gm ++ [γ]) g) ∨ (v = 0 ∧ (∃ ms, cGr I' J' N ms (gm ++ [γ])) ∧ ∃ ms : List (List Nat), ms.Nodup ∧ 3000 < ms.length ∧ ∀ g ∈ ms, gC N (gm ++ [γ]) g)) ∧ cfx [35, 36, 37, 38, 39, 40] I J I' J')) 78 [some (.ref (G.1 35)), some (.long (gKey γ)), none, some (.int (nI H.length)), some (.int (nI (k * H.length))), some (.int (nI j)), z6, none] [] I2 J2 := by
        refine x_for (fun j hj IHj I2 J2 ms rs z6 f2 c2 b2' p2 hkl cl clj => ?_)
        obtain ⟨hml, hmc, hmk⟩ := c2.len
        have hbl := b2'.1
        have hgl : (gm ++ [γ]).length = gm.length + 1 := by simp
        have hkb : (k + 1) * H.length ≤ rs.length * H.length := Nat.mul_le_mul_right _ hkl
        rw [Nat.add_mul, Nat.one_mul] at hkb
        refine xr_iload dX1_bringIn_78 rfl ?_
        refine xr_aload0 dX1_bringIn_80 rfl ?_
        refine xr_getIv dX1_bringIn_81 fk_1_24 lay_35 rfl c2.2.2.2.1 ?_
        refine xr_icmp_ge 141 dX1_bringIn_84 (by decide) (fun hc => ?_) (fun hc => ?_)
        · have : j = (gm ++ [γ]).length := by have := nle hc; omega
          subst this
          refine xr_iload dX1_bringIn_141 rfl ?_
          refine xr_iload3 dX1_bringIn_143 rfl ?_
          refine xr_iadd dX1_bringIn_144 ?_
          rw [nI_add, show k * H.length + H.length = (k + 1) * H.length by rw [Nat.add_mul, Nat.one_mul]]
          refine xr_istore dX1_bringIn_145 (Nat.le_of_ble_eq_true rfl) ?_
          show xT _ _ _ 147 [_, _, _, _, _, _, _, _] _ _ _
          refine xr_goto 55 dX1_bringIn_147 (by decide) ?_
          refine IH (k + 1) (by omega) I2 J2 ms rs _ _ f2 c2 b2' p2 (by omega) (fun k' hk' hlt δ hδ => ?_)
          rcases Nat.lt_or_ge k' k with q | q
          · exact cl k' hk' q δ hδ
          · have : k' = k := by omega
            subst this
            obtain ⟨j', hj', rfl⟩ := List.getElem_of_mem hδ
            exact clj j' hj' hj'
        have hjl := nlt hc
        have IHj := IHj hjl
        have hrk : gC N (gm ++ [γ]) rs[k] := b2'.2.2.1 _ (List.getElem_mem hkl)
        have hrp := hrk.ok hgm'
        have hδ := List.getElem_mem hjl
        have hδp := hgm' _ hδ
        have vk : J2 37 (k * H.length) = gKey rs[k] := by
          have e := b2'.2.1 k 0 hkl hB0
          rw [Nat.add_zero, hHat, one_gmul hrp] at e
          obtain ⟨e1, e2⟩ := List.getElem?_eq_some_iff.mp e
          rw [hmk _ e1, e2]
        have vg := c2.2.2.2.2.2 j hjl
        refine xr_aload0 dX1_bringIn_87 rfl ?_
        refine xr_aload0 dX1_bringIn_88 rfl ?_
        refine xr_getR dX1_bringIn_89 fk_1_14 lay_35 rfl ?_
        refine xr_getR dX1_bringIn_92 fk_1_50 lay_36 rfl ?_
        refine xr_iload dX1_bringIn_95 rfl ?_
        refine xr_laldv (k * H.length) dX1_bringIn_97 lay_37 rfl (by omega) (by decide) vk ?_
        refine xr_aload0 dX1_bringIn_98 rfl ?_
        refine xr_getR dX1_bringIn_99 fk_1_20 lay_35 rfl ?_
        refine xr_iload dX1_bringIn_102 rfl ?_
        refine xr_laldv j dX1_bringIn_104 lay_40 rfl (by omega) (by decide) vg ?_
        refine xr_cVl [_, _] dX1_bringIn_105 (xcv_of cf_X1_behind ml_1_53 (by decide)) rfl lay_35 rfl rfl rfl (Nat.le_of_ble_eq_true rfl) (c1_behind hN c2.2.2.1 hrp hδp) (fun v I3 J3 hc3 => ?_)
        obtain ⟨rfl, rfl, rfl⟩ := hc3
        have hx := hrp.mul hδp
        have hxC := hrk.step hδ
        generalize hxe : gmul rs[k] (gm ++ [γ])[j] = x at *
        have K135 : ∀ I4 J4 (ms' rs' : List (List Nat)), cfx [35, 36, 37, 38, 39, 40] I J I4 J4 → cGr I4 J4 N ms' (gm ++ [γ]) → gBl N (gm ++ [γ]) H ms' rs' → (∀ i (hi : i < H.length), ms'[i]? = some H[i]) → (hk' : k < rs'.length) → rs'[k] = rs[k] → (∀ y ∈ ms, y ∈ ms') → (∀ k' (hk2 : k' < rs'.length), k' < k → ∃ (hk3 : k' < rs.length), rs'[k'] = rs[k']) → x ∈ ms' → xT G M_X1_bringIn (xMQ G (xpi fun v I' J' => ((v = 1 ∧ ∃ ms gm', cGr I' J' N ms gm' ∧ (∀ γ ∈ gm', gP N γ) ∧ isGC N gm' ms ∧ ms[0]? = some (List.range N) ∧ gm'.length ≤ gm.length + 1 ∧ ∀ g, gC N gm' g ↔ gC N (gm ++ [γ]) g) ∨ (v = 0 ∧ (∃ ms, cGr I' J' N ms (gm ++ [γ])) ∧ ∃ ms : List (List Nat), ms.Nodup ∧ 3000 < ms.length ∧ ∀ g ∈ ms, gC N (gm ++ [γ]) g)) ∧ cfx [35, 36, 37, 38, 39, 40] I J I' J')) 135 [some (.ref (G.1 35)), some (.long (gKey γ)), none, some (.int (nI H.length)), some (.int (nI (k * H.length))), some (.int (nI j)), some (.long (gKey x)), none] [] I4 J4 := by
          intro I4 J4 ms' rs' f4 c4 b4 p4 hk' ek hsubm hrs hxm
          refine xr_iinc dX1_bringIn_135 rfl ii_1 (Nat.le_of_ble_eq_true rfl) ?_
          show xT _ _ _ 138 [_, _, _, _, _, _, _, _] _ _ _
          refine xr_goto 78 dX1_bringIn_138 (by decide) ?_
          rw [k_1, nI_add]
          refine IHj I4 J4 ms' rs' _ f4 c4 b4 p4 hk' (fun k' hk2 hlt δ hδ => ?_) (fun j' hj' hlt => ?_)
          · obtain ⟨hk3, e3⟩ := hrs k' hk2 hlt
            rw [e3]
            exact hsubm _ (cl k' hk3 hlt δ hδ)
          · rw [ek]
            rcases Nat.lt_or_ge j' j with q | q
            · exact hsubm _ (clj j' hj' q)
            · have : j' = j := by omega
              subst this
              rw [hxe]; exact hxm
        refine xr_lstore dX1_bringIn_108 (Nat.le_of_ble_eq_true rfl) ?_
        show xT _ _ _ 110 [_, _, _, _, _, _, _, _] _ _ _
        refine xr_aload0 dX1_bringIn_110 rfl ?_
        refine xr_getR dX1_bringIn_111 fk_1_14 lay_35 rfl ?_
        refine xr_lload dX1_bringIn_114 rfl ?_
        refine xr_ic0 dX1_bringIn_116 ?_
        refine xr_cVi [_, _] dX1_bringIn_117 (xcv_of cf_X0_find ml_1_38 (by decide)) rfl lay_36 rfl rfl rfl (Nat.le_of_ble_eq_true rfl) (cgr_find hN c2 hx) (fun v I3 J3 hc3 => ?_)
        obtain ⟨hv, rfl, rfl⟩ := hc3
        rcases hv with ⟨hxm, hv⟩ | ⟨hxm, rfl⟩
        · skip
          refine xr_if_ge 135 dX1_bringIn_120 (by decide) (fun hz => ?_) (fun hz => ?_)
          rotate_left
          · exact absurd hv hz
          exact K135 I2 J2 ms rs f2 c2 b2' p2 hkl rfl (fun y hy => hy) (fun k' hk2 _ => ⟨hk2, rfl⟩) hxm
        refine xr_if_ge 135 dX1_bringIn_120 (by decide) (fun hz => ?_) (fun hz => ?_)
        · exact absurd hz (by decide)
        have hnew : ∀ a ∈ H, gmul a x ∉ ms := fun a ha q => by
          obtain ⟨r, hr, a', ha', e⟩ := b2'.mem.mp q
          obtain ⟨kk, hkk, e2⟩ := blk_new hgm hH ha ha' hx ((b2'.2.2.1 r hr).ok hgm') e
          exact hxm (b2'.mem.mpr ⟨r, hr, kk, hkk, e2⟩)
        refine xr_aload0 dX1_bringIn_123 rfl ?_
        refine xr_iload3 dX1_bringIn_124 rfl ?_
        refine xr_lload dX1_bringIn_125 rfl ?_
        refine xr_cVi [_, _] dX1_bringIn_127 (xcv_of cf_X1_addBlock ml_1_57 (by decide)) rfl lay_35 rfl rfl rfl (Nat.le_of_ble_eq_true rfl) (c1_addBlock hN c2 p2 hH.1 hx hnew) (fun v I3 J3 hc3 => ?_)
        rcases hc3 with ⟨hbig, rfl, rfl, rfl⟩ | ⟨hfit, rfl, c3, f3⟩
        · skip
          refine xr_if_ne 135 dX1_bringIn_130 (by decide) (fun hz2 => ?_) (fun hz2 => ?_)
          · exact absurd rfl hz2
          refine xr_ic0 dX1_bringIn_133 ?_
          refine xr_zret dX1_bringIn_134 rfl rfl (by simp) ⟨Or.inr ⟨rfl, ⟨ms, c2⟩, ms ++ H.map (fun a => gmul a x), ?_, by rw [List.length_append, List.length_map]; exact hbig, fun g hg => ?_⟩, f2⟩
          · rw [List.nodup_append]
            refine ⟨c2.nodup, List.pairwise_map.mpr (List.Pairwise.imp_of_mem (R := fun a b => a ≠ b) (fun {a b} ha hb hne e => hne (gmul_canR (hHp a ha) (hHp b hb) hx e)) hH.1), fun a ha b hb e => ?_⟩
            obtain ⟨a', ha', rfl⟩ := List.mem_map.mp hb
            exact hnew a' ha' (by rw [← e]; exact ha)
          · rcases List.mem_append.mp hg with q | q
            · obtain ⟨r, hr, a, ha, rfl⟩ := b2'.mem.mp q
              exact (hsub a ((hH.2 a).mp ha)).mul hgm' (b2'.2.2.1 r hr)
            · obtain ⟨a, ha, rfl⟩ := List.mem_map.mp q
              exact (hsub a ((hH.2 a).mp ha)).mul hgm' hxC
        · skip
          refine xr_if_ne 135 dX1_bringIn_130 (by decide) (fun hz2 => ?_) (fun hz2 => ?_)
          rotate_left
          · exact absurd hz2 (by decide)
          have badd := b2'.add hxC
          refine K135 I3 J3 _ _ (f2.tr (f3.mono (by simp))) c3 badd (fun i hi => ?_) (by rw [List.length_append]; omega) (List.getElem_append_left hkl) (fun y hy => List.mem_append_left _ hy) (fun k' hk2 hlt => ⟨by omega, List.getElem_append_left (by omega)⟩) ?_
          · have := p2 i hi
            rw [List.getElem?_append_left (List.getElem?_eq_some_iff.mp this).1]; exact this
          · refine List.mem_append_right _ (List.mem_map.mpr ⟨H[0], List.getElem_mem hB0, ?_⟩)
            show gmul H[0] x = x
            rw [hHat, one_gmul hx]
      refine xr_ic0 dX1_bringIn_75 ?_
      refine xr_istore dX1_bringIn_76 (Nat.le_of_ble_eq_true rfl) ?_
      show xT _ _ _ 78 [_, _, _, _, _, _, _, _] _ _ _
      exact Lj 0 (Nat.zero_le _) I1 J1 ms rs _ f1 c1 b1 p1 hkl cl (fun j' _ hj' => absurd hj' (Nat.not_lt_zero _))
  refine x_ent (by decide) (Nat.le_of_ble_eq_true rfl) rfl ?_
  show xT _ _ _ 0 [_, _, _, _, _, _, _, _] _ _ _
  refine xr_aload0 dX1_bringIn_0 rfl ?_
  refine xr_getR dX1_bringIn_1 fk_1_14 lay_35 rfl ?_
  refine xr_lload1 dX1_bringIn_4 rfl ?_
  refine xr_ic0 dX1_bringIn_5 ?_
  refine xr_cVi [_, _] dX1_bringIn_6 (xcv_of cf_X0_find ml_1_38 (by decide)) rfl lay_36 rfl rfl rfl (Nat.le_of_ble_eq_true rfl) (cgr_find hN h hγ) (fun v I1 J1 hc => ?_)
  obtain ⟨hv, rfl, rfl⟩ := hc
  rcases hv with ⟨hm, hv⟩ | ⟨hm, rfl⟩
  · skip
    refine xr_if_ge 21 dX1_bringIn_9 (by decide) (fun hz => ?_) (fun hz => ?_)
    rotate_left
    · exact absurd hv hz
    refine xr_ic1 dX1_bringIn_21 ?_
    refine xr_zret dX1_bringIn_22 rfl rfl (by simp) ⟨Or.inl ⟨rfl, H, gm, h, hgm, hH, h0, by omega, fun g => ⟨hsub g, fun hg => hg.mono hgm (fun δ hδ => ?_)⟩⟩, cfx.rf⟩
    rcases List.mem_append.mp hδ with q | q
    · exact gC.gen hgm q
    · rw [List.mem_singleton.mp q]; exact (hH.2 γ).mp hm
  refine xr_if_ge 21 dX1_bringIn_9 (by decide) (fun hz => ?_) (fun hz => ?_)
  · exact absurd hz (by decide)
  refine xr_aload0 dX1_bringIn_12 rfl ?_
  refine xr_getIv dX1_bringIn_13 fk_1_24 lay_35 rfl h.2.2.2.1 ?_
  refine xr_bip bi_8 dX1_bringIn_16 ?_
  refine xr_icmp_lt 23 dX1_bringIn_18 (by decide) (fun hlt => ?_) (fun hlt => ?_)
  rotate_left
  · have := nnlt (b := 8) hlt; omega
  refine xr_aload0 dX1_bringIn_23 rfl ?_
  refine xr_getR dX1_bringIn_24 fk_1_20 lay_35 rfl ?_
  refine xr_aload0 dX1_bringIn_27 rfl ?_
  refine xr_dup dX1_bringIn_28 rfl ?_
  refine xr_getIv dX1_bringIn_29 fk_1_24 lay_35 rfl h.2.2.2.1 ?_
  refine xr_dup_x1 dX1_bringIn_32 rfl rfl ?_
  refine xr_ic1 dX1_bringIn_33 ?_
  refine xr_iadd dX1_bringIn_34 ?_
  show xT _ _ _ 35 _ _ _ _
  refine xr_putI dX1_bringIn_35 fp_1_24 lay_35 rfl ?_
  rw [k_1, nI_add]
  generalize hI1 : va_up I 35 (upd (I 35) 2 (nI (gm.length + 1))) = I1
  refine xr_lload1 dX1_bringIn_38 rfl ?_
  refine xr_last gm.length dX1_bringIn_39 lay_40 rfl (by omega) (by decide) ?_
  generalize hJ1 : va_up J 40 (vp_updL (J 40) gm.length (gKey γ)) = J1
  have eo : ∀ a, a ≠ 35 → I1 a = I a := fun a ha => by rw [← hI1, va_up_ne _ _ ha]
  have eJ : ∀ a, a ≠ 40 → J1 a = J a := fun a ha => by rw [← hJ1, va_up_ne _ _ ha]
  have c1 : cGr I1 J1 N H (gm ++ [γ]) := by
    refine ⟨h.1.cg (fun a h1 h2 => ⟨eo a (by omega), eJ a (by omega)⟩), h.2.1, ?_, ?_, by simp; omega, fun j hj => ?_⟩
    · rw [← hI1, up_same, upd_ne _ _ (by decide)]; exact h.2.2.1
    · rw [← hI1, up_same, upd_same]; simp
    · rw [List.length_append, List.length_singleton] at hj
      rw [← hJ1, up_same]
      rcases Nat.lt_or_ge j gm.length with q | q
      · rw [updL_ne _ _ (by omega), List.getElem_append_left q]; exact h.2.2.2.2.2 j q
      · have : j = gm.length := by omega
        subst this
        rw [updL_same]; simp
  have f1 : cfx [35, 36, 37, 38, 39, 40] I J I1 J1 := by rw [← hI1, ← hJ1]; exact (cfx.rf.up _ (by simp)).upJ _ (by simp)
  have hmc : I1 36 3 = nI H.length := c1.len.2.1
  refine xr_aload0 dX1_bringIn_40 rfl ?_
  refine xr_getR dX1_bringIn_41 fk_1_14 lay_35 rfl ?_
  refine xr_getIv dX1_bringIn_44 fk_1_41 lay_36 rfl hmc ?_
  refine xr_ic1 dX1_bringIn_47 ?_
  refine xr_max dX1_bringIn_48 ml_1_44 (by decide) (Nat.le_of_ble_eq_true rfl) ?_
  have ev : (if nI H.length < 1 then (1 : Int32) else nI H.length) = nI H.length := by
    rw [if_neg]
    intro q
    have := nltl (b := 1) q
    omega
  rw [ev]
  refine xr_istore3 dX1_bringIn_51 (Nat.le_of_ble_eq_true rfl) ?_
  show xT _ _ _ 52 [_, _, _, _, _, _, _, _] _ _ _
  refine xr_ic0 dX1_bringIn_52 ?_
  refine xr_istore dX1_bringIn_53 (Nat.le_of_ble_eq_true rfl) ?_
  show xT _ _ _ 55 [_, _, _, _, _, _, _, _] _ _ _
  have := K55 3001 0 rfl I1 J1 H [List.range N] none none f1 c1 ⟨by simp, fun k i hk hi => ?_, fun r hr => by rw [List.mem_singleton.mp hr]; exact gC.one, rfl⟩ (fun i hi => List.getElem?_eq_getElem hi) (Nat.zero_le _) (fun k' _ hk' => absurd hk' (Nat.not_lt_zero _))
  · rw [Nat.zero_mul] at this
    exact this
  · have : k = 0 := by simp at hk; omega
    subst this
    rw [Nat.zero_mul, Nat.zero_add, List.getElem?_eq_getElem hi]
    show some H[i] = some (gmul H[i] (List.range N))
    rw [gmul_one (hHp _ (List.getElem_mem hi))]
end C33
