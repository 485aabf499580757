-- permutations as lists, done one behind the other
def gmul (a b : List Nat) : List Nat := a.map (fun x => b.getD x 0)
def gP (N : Nat) (g : List Nat) : Prop := g.length = N ∧ (∀ x ∈ g, x < N) ∧ g.Nodup
theorem gD {g : List Nat} {i : Nat} (h : i < g.length) : g.getD i 0 = g[i] := by rw [List.getD_eq_getElem?_getD, List.getElem?_eq_getElem h]; rfl
theorem gP.at {N : Nat} {g : List Nat} (h : gP N g) {i : Nat} (hi : i < N) : g.getD i 0 < N ∧ g.getD i 0 ∈ g := by
  have hl : i < g.length := by rw [h.1]; exact hi
  rw [gD hl]
  exact ⟨h.2.1 _ (List.getElem_mem hl), List.getElem_mem hl⟩
theorem gP.inj {N : Nat} {g : List Nat} (h : gP N g) {i j : Nat} (hi : i < N) (hj : j < N) (e : g.getD i 0 = g.getD j 0) : i = j := by
  rw [gD (by rw [h.1]; exact hi), gD (by rw [h.1]; exact hj)] at e
  exact (List.getElem_inj h.2.2).mp e
theorem gP.sur {N : Nat} {g : List Nat} (h : gP N g) {y : Nat} (hy : y < N) : ∃ i, i < N ∧ g.getD i 0 = y := by
  refine Classical.byContradiction (fun hn => ?_)
  have hni : y ∉ g := fun q => by
    obtain ⟨i, hi, e⟩ := List.getElem_of_mem q
    exact hn ⟨i, by rw [← h.1]; exact hi, by rw [gD hi, e]⟩
  have := nodup_len (a := y :: g) (b := List.range N) (List.nodup_cons.mpr ⟨hni, h.2.2⟩) (fun x hx => by
    rcases List.mem_cons.mp hx with q | q
    · rw [q]; exact List.mem_range.mpr hy
    · exact List.mem_range.mpr (h.2.1 x q))
  rw [List.length_cons, h.1, List.length_range] at this
  omega
theorem gmul_len (a b : List Nat) : (gmul a b).length = a.length := List.length_map _
theorem gmul_at {a b : List Nat} {i : Nat} (hi : i < a.length) : (gmul a b).getD i 0 = b.getD (a.getD i 0) 0 := by
  rw [gD (by rw [gmul_len]; exact hi), gD hi]
  unfold gmul
  rw [List.getElem_map]
theorem g_ext {N : Nat} {a b : List Nat} (ha : a.length = N) (hb : b.length = N) (h : ∀ i, i < N → a.getD i 0 = b.getD i 0) : a = b := by
  refine List.ext_getElem (by rw [ha, hb]) (fun i h1 h2 => ?_)
  have := h i (by rw [← ha]; exact h1)
  rw [gD h1, gD h2] at this
  exact this
theorem gP.mul {N : Nat} {a b : List Nat} (ha : gP N a) (hb : gP N b) : gP N (gmul a b) := by
  refine ⟨by rw [gmul_len]; exact ha.1, fun x hx => ?_, ?_⟩
  · obtain ⟨y, hy, rfl⟩ := List.mem_map.mp hx
    exact (hb.at (ha.2.1 y hy)).1
  · unfold gmul
    refine List.pairwise_map.mpr (List.Pairwise.imp_of_mem (R := fun x y => x ≠ y) (fun {x y} hx hy hne e => hne (hb.inj (ha.2.1 x hx) (ha.2.1 y hy) e)) ha.2.2)
theorem gP.one (N : Nat) : gP N (List.range N) := ⟨by simp, fun x hx => List.mem_range.mp hx, List.nodup_range⟩
theorem range_at {N i : Nat} (h : i < N) : (List.range N).getD i 0 = i := by rw [gD (by rw [List.length_range]; exact h)]; simp
theorem gmul_assoc {N : Nat} {a b c : List Nat} (ha : gP N a) (hb : gP N b) (hc : gP N c) : gmul (gmul a b) c = gmul a (gmul b c) := by
  refine g_ext (N := N) (by rw [gmul_len, gmul_len]; exact ha.1) (by rw [gmul_len]; exact ha.1) (fun i hi => ?_)
  have h1 := (ha.at hi).1
  rw [gmul_at (by rw [gmul_len, ha.1]; exact hi), gmul_at (by rw [ha.1]; exact hi), gmul_at (by rw [ha.1]; exact hi), gmul_at (by rw [hb.1]; exact h1)]
theorem gmul_one {N : Nat} {a : List Nat} (ha : gP N a) : gmul a (List.range N) = a := by
  refine g_ext (N := N) (by rw [gmul_len]; exact ha.1) ha.1 (fun i hi => ?_)
  rw [gmul_at (by rw [ha.1]; exact hi), range_at (ha.at hi).1]
theorem one_gmul {N : Nat} {a : List Nat} (ha : gP N a) : gmul (List.range N) a = a := by
  refine g_ext (N := N) (by rw [gmul_len]; simp) ha.1 (fun i hi => ?_)
  rw [gmul_at (by simp; exact hi), range_at hi]
theorem gmul_canR {N : Nat} {a b c : List Nat} (ha : gP N a) (hb : gP N b) (hc : gP N c) (e : gmul a c = gmul b c) : a = b := by
  refine g_ext ha.1 hb.1 (fun i hi => hc.inj (ha.at hi).1 (hb.at hi).1 ?_)
  rw [← gmul_at (by rw [ha.1]; exact hi), ← gmul_at (by rw [hb.1]; exact hi), e]
theorem gmul_canL {N : Nat} {h x y : List Nat} (hh : gP N h) (hx : gP N x) (hy : gP N y) (e : gmul h x = gmul h y) : x = y := by
  refine g_ext hx.1 hy.1 (fun i hi => ?_)
  obtain ⟨j, hj, rfl⟩ := hh.sur hi
  rw [← gmul_at (by rw [hh.1]; exact hj), ← gmul_at (by rw [hh.1]; exact hj), e]
/-- an injective map of a finite list into itself meets all of it -/
theorem map_sur {α : Type} {H : List α} (hn : H.Nodup) {φ : α → α} (hin : ∀ a ∈ H, φ a ∈ H) (hinj : ∀ a ∈ H, ∀ b ∈ H, φ a = φ b → a = b) {x : α} (hx : x ∈ H) : ∃ a ∈ H, φ a = x := by
  refine Classical.byContradiction (fun hno => ?_)
  have h1 : (H.map φ).Nodup := List.pairwise_map.mpr (List.Pairwise.imp_of_mem (R := fun a b => a ≠ b) (fun {a b} ha hb hne e => hne (hinj a ha b hb e)) hn)
  have h2 : x ∉ H.map φ := fun q => by
    obtain ⟨a, ha, e⟩ := List.mem_map.mp q
    exact hno ⟨a, ha, e⟩
  have := nodup_len (a := x :: H.map φ) (b := H) (List.nodup_cons.mpr ⟨h2, h1⟩) (fun y hy => by
    rcases List.mem_cons.mp hy with q | q
    · rw [q]; exact hx
    · obtain ⟨a, ha, rfl⟩ := List.mem_map.mp q
      exact hin a ha)
  rw [List.length_cons, List.length_map] at this
  omega
/-- what a row of generators makes -/
def gC (N : Nat) (gens : List (List Nat)) (g : List Nat) : Prop := ∀ P : List Nat → Prop, P (List.range N) → (∀ a γ, P a → γ ∈ gens → P (gmul a γ)) → P g
theorem gC.one {N : Nat} {gens : List (List Nat)} : gC N gens (List.range N) := fun P h _ => h
theorem gC.step {N : Nat} {gens : List (List Nat)} {a γ : List Nat} (h : gC N gens a) (hγ : γ ∈ gens) : gC N gens (gmul a γ) := fun P h0 h1 => h1 a γ (h P h0 h1) hγ
theorem gC.ok {N : Nat} {gens : List (List Nat)} (hg : ∀ γ ∈ gens, gP N γ) {a : List Nat} (h : gC N gens a) : gP N a := h (gP N) (gP.one N) (fun a γ ha hγ => ha.mul (hg γ hγ))
theorem gC.mul {N : Nat} {gens : List (List Nat)} (hg : ∀ γ ∈ gens, gP N γ) {a b : List Nat} (ha : gC N gens a) (hb : gC N gens b) : gC N gens (gmul a b) := by
  have := hb (fun x => gC N gens x ∧ gC N gens (gmul a x)) ⟨gC.one, by rw [gmul_one (ha.ok hg)]; exact ha⟩ (fun x γ hx hγ => ⟨hx.1.step hγ, by
    rw [← gmul_assoc (ha.ok hg) (hx.1.ok hg) (hg γ hγ)]
    exact hx.2.step hγ⟩)
  exact this.2
theorem gC.gen {N : Nat} {gens : List (List Nat)} (hg : ∀ γ ∈ gens, gP N γ) {γ : List Nat} (h : γ ∈ gens) : gC N gens γ := by
  have := (gC.one (N := N) (gens := gens)).step h
  rwa [one_gmul (hg γ h)] at this
theorem gC.mono {N : Nat} {A B : List (List Nat)} (hB : ∀ γ ∈ B, gP N γ) (h : ∀ γ ∈ A, gC N B γ) {g : List Nat} (hg : gC N A g) : gC N B g := hg (gC N B) gC.one (fun a γ ha hγ => ha.mul hB (h γ hγ))
def isGC (N : Nat) (gens ms : List (List Nat)) : Prop := ms.Nodup ∧ ∀ g, g ∈ ms ↔ gC N gens g
/-- blocks of a group: one in which a new row begins holds none of the others -/
theorem blk_new {N : Nat} {gens H : List (List Nat)} (hg : ∀ γ ∈ gens, gP N γ) (hH : isGC N gens H) {h h' x r : List Nat} (h1 : h ∈ H) (h2 : h' ∈ H) (hx : gP N x) (hr : gP N r) (e : gmul h x = gmul h' r) : ∃ k ∈ H, x = gmul k r := by
  have hp : ∀ a ∈ H, gP N a := fun a ha => ((hH.2 a).mp ha).ok hg
  obtain ⟨k, hk, ek⟩ := map_sur hH.1 (φ := fun a => gmul h a) (fun a ha => (hH.2 _).mpr (((hH.2 h).mp h1).mul hg ((hH.2 a).mp ha))) (fun a ha b hb e => gmul_canL (hp h h1) (hp a ha) (hp b hb) e) h2
  refine ⟨k, hk, gmul_canL (hp h h1) hx ((hp k hk).mul hr) ?_⟩
  rw [e, ← ek, gmul_assoc (hp h h1) (hp k hk) hr]
-- marks as lists
def gM (M : xMac) (n m : Nat) : List Nat := (List.range (mK M ^ n)).map (mkp M n m)
theorem gM_at {M : xMac} {n m i : Nat} (h : i < mK M ^ n) : (gM M n m).getD i 0 = mkp M n m i := by
  rw [gD (by unfold gM; simp; exact h)]
  simp [gM]
theorem gM_p {M : xMac} (hM : mOk M) (hwh : mWhole M) {n m : Nat} (hb : mBack M (m / 2)) : gP (mK M ^ n) (gM M n m) := by
  have pm := mkp_pm (n := n) hM hwh hb
  refine ⟨by simp [gM], fun x hx => ?_, ?_⟩
  · obtain ⟨y, hy, rfl⟩ := List.mem_map.mp hx
    exact pm.1 y (List.mem_range.mp hy)
  · exact List.pairwise_map.mpr (List.Pairwise.imp_of_mem (R := fun a b => a ≠ b) (fun {a b} ha hb hne e => hne (pm.2 a b (List.mem_range.mp ha) (List.mem_range.mp hb) e)) List.nodup_range)
theorem map_gM {M : xMac} {n m : Nat} {g : List Nat} (h : ∀ x ∈ g, x < mK M ^ n) : g.map (mkp M n m) = gmul g (gM M n m) := by
  unfold gmul
  exact List.map_inj_left.mpr (fun x hx => (gM_at (h x hx)).symm)
theorem mkp_opp {M : xMac} (hM : mOk M) (hwh : mWhole M) {n m p : Nat} (hb : mBack M (m / 2)) (hp : p < mK M ^ n) : mkp M n (opp m) (mkp M n m p) = p := by
  have hK : 0 < mK M := by have := hM.1; omega
  have ok := rOfP_lt hK n p
  have ok2 : rOk M (mact M (some m) (rOfP (mK M) n p)) := mact_ok hM hwh _ _ (fun m' e => by cases e; exact hb.okm) ok
  have e2 : rOfP (mK M) n (mkp M n m p) = mact M (some m) (rOfP (mK M) n p) := by
    have := rOfP_plc hK (mact M (some m) (rOfP (mK M) n p)) ok2
    rw [mact_len, rOfP_len] at this
    exact this
  have e3 := mact_opp hM (rOfP (mK M) n p) (some m) (fun a e => by cases e; exact hb) ok
  rw [Option.map_some] at e3
  show plc (mK M) (mact M (some (opp m)) (rOfP (mK M) n (mkp M n m p))) = p
  rw [e2, e3, plc_rOfP hK n p hp]
noncomputable def gBk (M : xMac) (n s : Nat) : List (List Nat) := ((List.range s).filter (fun s => mB M s)).map (fun s => gM M n (2 * s))
theorem gBk_p {M : xMac} (hM : mOk M) (hwh : mWhole M) {n s : Nat} : ∀ γ ∈ gBk M n s, gP (mK M ^ n) γ := fun γ hγ => by
  obtain ⟨t, ht, rfl⟩ := List.mem_map.mp hγ
  have := mB_iff.mp (List.mem_filter.mp ht).2
  exact gM_p hM hwh (by rw [show 2 * t / 2 = t by omega]; exact this)
/-- the group of the level is what the back states make -/
theorem gBk_all {M : xMac} (hM : mOk M) (hwh : mWhole M) {n : Nat} {ms : List (List Nat)} (h : isGC (mK M ^ n) (gBk M n (mN M)) ms) : isGp M n ms := by
  have hgp := gBk_p hM hwh (n := n) (s := mN M)
  have hp : ∀ a ∈ ms, gP (mK M ^ n) a := fun a ha => ((h.2 a).mp ha).ok hgp
  refine ⟨h.1, fun g => ⟨fun hg => ?_, fun hg => ?_⟩⟩
  · refine ((h.2 g).mp hg) (fun g => gP (mK M ^ n) g ∧ gIn M n g) ⟨gP.one _, gIn.one M n⟩ (fun a γ ha hγ => ⟨ha.1.mul (hgp γ hγ), ?_⟩) |>.2
    obtain ⟨t, ht, rfl⟩ := List.mem_map.mp hγ
    have hb := mB_iff.mp (List.mem_filter.mp ht).2
    have hb2 : mBack M (2 * t / 2) := by rw [show 2 * t / 2 = t by omega]; exact hb
    rw [← map_gM ha.1.2.1]
    exact ha.2.step (marks_in hb2.okm) hb2
  · refine hg.ind (P := fun g => g ∈ ms) ((h.2 _).mpr gC.one) (fun g m hg hm hb => ?_)
    have hev : ∀ a ∈ ms, a.map (mkp M n (2 * (m / 2))) ∈ ms := fun a ha => by
      rw [map_gM (hp a ha).2.1]
      refine (h.2 _).mpr (((h.2 a).mp ha).step (List.mem_map.mpr ⟨m / 2, List.mem_filter.mpr ⟨List.mem_range.mpr hb.lt, mB_iff.mpr hb⟩, rfl⟩))
    rcases Nat.mod_two_eq_zero_or_one m with e | e
    · have := hev g hg
      rw [show 2 * (m / 2) = m by omega] at this
      exact this
    · have hb2 : mBack M (2 * (m / 2) / 2) := by rw [show 2 * (m / 2) / 2 = m / 2 by omega]; exact hb
      have hinj := gM_p hM hwh (n := n) hb2
      obtain ⟨a, ha, ea⟩ := map_sur h.1 (φ := fun a => a.map (mkp M n (2 * (m / 2)))) hev (fun a ha b hb' e => by
        have e : a.map (mkp M n (2 * (m / 2))) = b.map (mkp M n (2 * (m / 2))) := e
        rw [map_gM (hp a ha).2.1, map_gM (hp b hb').2.1] at e
        exact gmul_canR (hp a ha) (hp b hb') hinj e) hg
      have ea : a.map (mkp M n (2 * (m / 2))) = g := ea
      rw [← ea, List.map_map]
      have : a.map (mkp M n m ∘ mkp M n (2 * (m / 2))) = a := by
        have hid : a.map (mkp M n m ∘ mkp M n (2 * (m / 2))) = a.map id := List.map_inj_left.mpr (fun x hx => by
          have := mkp_opp hM hwh (n := n) (m := 2 * (m / 2)) hb2 ((hp a ha).2.1 x hx)
          have eo : opp (2 * (m / 2)) = m := by unfold opp; rw [if_pos (by omega)]; omega
          rw [eo] at this
          exact this)
        rw [hid, List.map_id]
      rw [this]
      exact ha
