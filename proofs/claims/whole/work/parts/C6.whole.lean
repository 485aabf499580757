theorem yns_in : ∀ q ∈ yns, Cond.methodLinkNest q.1 q.2.1 q.2.2 RX8 ∈ lw_tbl := by
  show ∀ q ∈ [_, _, _, _, _, _, _, _, _, _], _
  exact List.forall_mem_cons.mpr ⟨List.mem_append_right _ (List.mem_of_getElem? (i := 27) (by decide +kernel)), List.forall_mem_cons.mpr ⟨List.mem_append_right _ (List.mem_of_getElem? (i := 47) (by decide +kernel)), List.forall_mem_cons.mpr ⟨List.mem_append_right _ (List.mem_of_getElem? (i := 102) (by decide +kernel)), List.forall_mem_cons.mpr ⟨List.mem_append_right _ (List.mem_of_getElem? (i := 135) (by decide +kernel)), List.forall_mem_cons.mpr ⟨List.mem_append_right _ (List.mem_of_getElem? (i := 185) (by decide +kernel)), List.forall_mem_cons.mpr ⟨List.mem_append_right _ (List.mem_of_getElem? (i := 192) (by decide +kernel)), List.forall_mem_cons.mpr ⟨List.mem_append_right _ (List.mem_of_getElem? (i := 239) (by decide +kernel)), List.forall_mem_cons.mpr ⟨List.mem_append_right _ (List.mem_of_getElem? (i := 244) (by decide +kernel)), List.forall_mem_cons.mpr ⟨List.mem_append_right _ (List.mem_of_getElem? (i := 246) (by decide +kernel)), List.forall_mem_cons.mpr ⟨List.mem_append_right _ (List.mem_of_getElem? (i := 282) (by decide +kernel)), fun _ h => absurd h List.not_mem_nil⟩⟩⟩⟩⟩⟩⟩⟩⟩⟩
theorem xnest_in : xnest ∈ lw_tbl := List.mem_append_right _ (List.mem_of_getElem? (i := 429) (by decide +kernel))
theorem yao_S : Cond.arrayOver (.object "SwitchTower$Sheet") ∈ lw_tbl := List.mem_append_right _ (List.mem_of_getElem? (i := 23) (by decide +kernel))
theorem yao_W : Cond.arrayOver (.object "SwitchTower$Word") ∈ lw_tbl := List.mem_append_right _ (List.mem_of_getElem? (i := 25) (by decide +kernel))
theorem z_call {g : yG} {p : Program} {l : Launch} {e0 : Env} {R : Room} {s : State} {m : MethodId} {args : Array Value} {below : List Frame} {meth : Method} {c : Code} {H : Heap} {locs : List Loc} {nc ns pc nL : Nat} {cc : ByteArray} {own : String} {QQ : State → Prop} {ls : Array Slot} {A : Nat → Prop} {F' : xM} {ix q mc ms : Nat} {e : va_E} {wr : va_W} {st : List Value} {post : va_W → Prop}
    (C : CallFix p m c cc nL s args xw own) (hK : va_K g.1 xcl (ytys g) s) (hN : yNw s) (hA : ∀ q, s.heap.size ≤ q → A q) (hls : ls.size = nL) (hd : decode cc pc = .ok (.invokespecial ix, 3)) (hf : ycf F' 0) (hln : Cond.methodLink own ix F'.1 ∈ xw) (hR : F'.2.2.2.2.1.frames + 1 ≤ R.frames ∧ 8 + (F'.2.2.1 + 11) + F'.2.2.2.2.1.locals ≤ R.locals) (hmc : F'.2.2.2.2.1.cells = mc) (hms : F'.2.2.2.2.1.slots = ms) (hrm : (st.map fun v => v.category).sum ≤ 8) (hc : yCon g F' [.ref q] [(q, e)] post mc ms) (hcs : nc + mc ≤ R.cells ∧ ns + ms ≤ R.slots) (hP : va_P g.1 xcl (wr ++ [(q, e)]) H) (hD : va_D A (wr ++ [(q, e)])) (hS : va_S A s.heap H locs)
    (kk : ∀ (w1 : va_W) (H1 : Heap) (locs1 : List Loc), post w1 → va_P g.1 xcl (wr ++ w1) H1 → va_D A (wr ++ w1) → va_S A s.heap H1 locs1 → W p l e0 R s m args below meth c H1 locs1 (nc + mc) (ns + ms) QQ (F0 m (pc + 3) ls st)) : W p l e0 R s m args below meth c H locs nc ns QQ (F0 m pc ls (.ref q :: st)) := by
  have hts := C.2.2.2.2
  have hPc : va_P g.1 xcl [(q, e)] H := hP.sub [wr.length] (by simp)
  have hDc : va_D (fun _ => True) [(q, e)] := ⟨fun i j x y hx hy _ => by
    have h1 : i < 1 := (List.getElem?_eq_some_iff.mp hx).1
    have h2 : j < 1 := (List.getElem?_eq_some_iff.mp hy).1
    omega, fun _ _ _ => trivial⟩
  have hFc : ∀ x, va_A [(q, e)] H.size x → A x := va_free hD hS hA [wr.length] (by simp)
  have hM := hc l H.size
  rw [hf.own] at hM
  refine va_callv (va_runI (nL := nL) (cc := cc) (own := own) (Ts := xw) (As := []) (rest := st) (bytes := F'.2.1) (maxL := F'.2.2.1) (index := ix) C hM ⟨callB_of 0 hts hf.good rfl hmc hms (hts _ hf.2.1) (hts _ hln) hf.2.2.2.1 hR, hf.2.2.2.2.1, hts _ hf.2.2.1⟩ ⟨yPc_blind, fun U hU hW => ⟨rfl, by rw [hU], by rw [hU]; exact hPc, va_K.moved hW.alike hK, hN.warm hW, hDc⟩⟩ rfl rfl hls rfl (lv_room hrm) hd hcs) hS (fun x _ h => hFc x h) hFc (fun u t H1 locs1 ht hvm hw hB hz1 hk1 hS1 => ?_)
  obtain ⟨hP1, hD1⟩ := hB
  rw [ht] at hP1
  obtain ⟨hP2, hD2⟩ := y_join hP hD hk1 hFc hP1 hD1
  exact kk u H1 locs1 hw hP2 hD2 hS1
theorem z_world {s : State} {args : Array Value} (hts : ∀ w ∈ lw_tbl, w.before args s = true) : ∃ g : yG, va_K g.1 xcl (ytys g) s := by
  have htx : ∀ w ∈ xw, w.before args s = true := fun w hw => hts w (xw_sub hw)
  obtain ⟨c0, i0, k0⟩ := u_known (C := RX0) (T := TX0) (N := 5) (n := 5) htx xcin_0 (htx _ yi_0)
  obtain ⟨c1, i1, k1⟩ := u_known (C := RX1) (T := TX1) (N := 4) (n := 4) htx xcin_1 (htx _ yi_1)
  obtain ⟨c2, i2, k2⟩ := u_known (C := RX2) (T := TX2) (N := 8) (n := 8) htx xcin_2 (htx _ yi_2)
  obtain ⟨c3, i3, k3⟩ := u_known (C := RX3) (T := TX3) (N := 10) (n := 10) htx xcin_3 (htx _ yi_3)
  obtain ⟨c4, i4, k4⟩ := u_known (C := RX4) (T := TX4) (N := 13) (n := 13) htx xcin_4 (htx _ yi_4)
  obtain ⟨c5, i5, k5⟩ := u_known (C := RX5) (T := TX5) (N := 4) (n := 4) htx xcin_5 (htx _ yi_5)
  obtain ⟨c6, i6, k6⟩ := u_known (C := RX6) (T := TX6) (N := 10) (n := 10) htx xcin_6 (htx _ yi_6)
  obtain ⟨c7, i7, k7⟩ := u_known (C := RX7) (T := TX7) (N := 2) (n := 2) htx xcin_7 (htx _ yi_7)
  obtain ⟨c8, i8, k8⟩ := u_known (C := RX8) (T := TX8) (N := 9) (n := 9) htx xcin_8 (htx _ yi_8)
  obtain ⟨c9, i9, k9⟩ := u_known (C := RX9) (T := TX9) (N := 42) (n := 42) htx xcin_9 (htx _ yi_9)
  obtain ⟨D, hKc⟩ : ∃ D : va_G, ∀ (k : Nat) (q : vw_C), xcl[k]? = some q → u_Kn s q.1 q.2.1 q.2.2 (D.1 k) (D.2 k) := by
    refine ⟨(fun k => match k with | 0 => c0 | 1 => c1 | 2 => c2 | 3 => c3 | 4 => c4 | 5 => c5 | 6 => c6 | 7 => c7 | 8 => c8 | _ => c9, fun k => match k with | 0 => i0 | 1 => i1 | 2 => i2 | 3 => i3 | 4 => i4 | 5 => i5 | 6 => i6 | 7 => i7 | 8 => i8 | _ => i9), ?_⟩
    intro k q hq
    match k, hq with
    | 0, hq => cases hq; exact k0
    | 1, hq => cases hq; exact k1
    | 2, hq => cases hq; exact k2
    | 3, hq => cases hq; exact k3
    | 4, hq => cases hq; exact k4
    | 5, hq => cases hq; exact k5
    | 6, hq => cases hq; exact k6
    | 7, hq => cases hq; exact k7
    | 8, hq => cases hq; exact k8
    | 9, hq => cases hq; exact k9
    | k + 10, hq => simp [xcl] at hq
  obtain ⟨aI, kI, mI, fI, gI, hI⟩ := Cond.arrayClass_spec (htx _ yw_aI)
  obtain ⟨aJ, kJ, mJ, fJ, gJ, hJ⟩ := Cond.arrayClass_spec (htx _ yw_aJ)
  obtain ⟨aZ, kZ', mZ, fZ, gZ, hZ⟩ := Cond.arrayClass_spec (htx _ yw_aZ)
  obtain ⟨mS, aS, kS, s1, -, s3, s4, s5⟩ := Cond.arrayOver_spec (hts _ yao_S)
  obtain ⟨mW', aW, kW, w1, -, w3, w4, w5⟩ := Cond.arrayOver_spec (hts _ yao_W)
  refine ⟨(D, fun k => match k with | 0 => aI | 1 => aJ | 2 => aZ | 3 => aS | _ => aW), hKc, ?_⟩
  intro k q hk
  match k, hk with
  | 0, hk => cases hk; exact ⟨fun n z => ⟨fun k h => (by cases h), kI, gI, mI, hI⟩, fI⟩
  | 1, hk => cases hk; exact ⟨fun n z => ⟨fun k h => (by cases h), kJ, gJ, mJ, hJ⟩, fJ⟩
  | 2, hk => cases hk; exact ⟨fun n z => ⟨fun k h => (by cases h), kZ', gZ, mZ, hZ⟩, fZ⟩
  | 3, hk => cases hk; exact ⟨fun n z => ⟨fun k h => (by cases h), kS, s3, mS, s4⟩, kS, mS, s3, s4, s1, s5⟩
  | 4, hk => cases hk; exact ⟨fun n z => ⟨fun k h => (by cases h), kW, w3, mW', w4⟩, kW, mW', w3, w4, w1, w5⟩
  | k + 5, hk => simp at hk
set_option maxHeartbeats 4000000 in
set_option maxRecDepth 100000 in
/-- THE LAW, from its entry -/
theorem whole_start {p : Program} {e : Env} {s : State} {m : MethodId} {below : List Frame} {meth : Method} {c : Code} (l : Launch) {b L : Nat} {xs : Nat → Int32} (hL : L ≤ 3072) (C0 : lw_At p s m meth c b L xs) : W p l e room_1 s m #[Value.ref b] below meth c s.heap [] 0 0 (lw_Z below #[Value.ref b] s) (entryFrame m ([Value.ref b] : List Value).toArray 4) := by
  obtain ⟨hx, hb, hr, hml, hown, hts, hX, hbl, hlocks, hgv⟩ := C0
  have htx : ∀ w ∈ xw, w.before #[Value.ref b] s = true := fun w hw => hts w (xw_sub hw)
  have hown : s.vm.findClass RL = some m.cls := hown
  have hA : ∀ q : Nat, s.heap.size ≤ q → (fun q : Nat => s.heap.size ≤ q) q := fun _ h => h
  have hbA : ¬ (fun q : Nat => s.heap.size ≤ q) b := Nat.not_le.mpr hbl
  obtain ⟨g, hK⟩ := z_world hts
  have hN : yNw s := ⟨fun q hq => va_Nw.of rfl (hts _ (yns_in q hq)), va_AO.of (hts _ yao_S), va_AO.of (hts _ yao_W)⟩
  have hNx : va_Nw xnest s := va_Nw.of rfl (hts _ xnest_in)
  have hS : va_S (fun q : Nat => s.heap.size ≤ q) s.heap s.heap [] := va_S.rf
  have hP : va_P g.1 xcl [] s.heap := fun k q h => by simp at h
  have hD : va_D (fun q : Nat => s.heap.size ≤ q) [] := ⟨fun i j p q h => by simp at h, fun k q h => by simp at h⟩
  have hl := lv_entry ([.ref b]) (n := 4) (Nat.le_of_ble_eq_true rfl)
  rw [lg_entry_eq]
  generalize (lg_sl ([.ref b]) ++ List.replicate (4 - (lg_sl ([.ref b])).length) Slot.unset).toArray = ls at hl ⊢
  have hl : lv_has ls 4 [(0, .ref b)] := hl
  refine va_new (ci := 8) (fs := [.null, .null, .null, .null, .null, .null, .null, .null, .null]) (C := RX8) (T := TX8) (N := 9) hx hb htx xcin_8 tyX8 tyX8_ok hown (htx (.classLink RL 7 RX8) (xt 14 (by decide +kernel) rfl)) (htx _ yi_8) (htx _ wi_8) hK hP hD hS hA rfl yf_8 (Nat.le_of_ble_eq_true rfl) (Nat.le_of_ble_eq_true rfl) dL_law_0 (fun q0 H hP hD hS => ?_)
  refine lv_dup hx hb dL_law_3 rfl ?_
  refine z_call (F' := M_X8_init) ⟨hx, hb, hml, hown, htx⟩ hK hN hA hl.1 dL_law_4 yc_X8_init (xt 16 (by decide +kernel) rfl) ⟨by decide, by decide⟩ rfl rfl (Nat.le_of_ble_eq_true rfl) (yk_X8_init g q0) ⟨Nat.le_of_ble_eq_true rfl, Nat.le_of_ble_eq_true rfl⟩ hP hD hS (fun w1 H locs hw hP hD hS => ?_)
  obtain ⟨a, rfl, rfl⟩ := hw
  refine lv_astore_n (lv' := [(1, .ref (a 0)), (0, .ref b)]) hx hb dL_law_7 rfl hl (by decide) rfl (fun ls hl => ?_)
  refine va_new (ci := 9) (fs := [.null, .null, .null, .int 0, .int 0, .null, .null, .null, .null, .null, .null, .int 0, .null, .int 0, .int 0, .null, .int 0, .null, .null, .null, .null, .int 0, .int 0, .null, .null, .null, .int 0, .int 0, .int 0, .null, .null, .null, .null, .int 0, .int 0, .null, .null, .null, .int 0, .null, .null, .int 0]) (C := RX9) (T := TX9) (N := 42) hx hb htx xcin_9 tyX9 tyX9_ok hown (htx (.classLink RL 10 RX9) (xt 841 (by decide +kernel) rfl)) (htx _ yi_9) (htx _ wi_9) hK hP hD hS hA rfl yf_9 (Nat.le_of_ble_eq_true rfl) (Nat.le_of_ble_eq_true rfl) dL_law_8 (fun q1 H hP hD hS => ?_)
  refine lv_dup hx hb dL_law_11 rfl ?_
  refine z_call (F' := M_X9_init) ⟨hx, hb, hml, hown, htx⟩ hK hN hA hl.1 dL_law_12 yc_X9_init (xt 843 (by decide +kernel) rfl) ⟨by decide, by decide⟩ rfl rfl (Nat.le_of_ble_eq_true rfl) (yk_X9_init g q1) ⟨Nat.le_of_ble_eq_true rfl, Nat.le_of_ble_eq_true rfl⟩ hP hD hS (fun w1 H locs hw hP hD hS => ?_)
  obtain ⟨a', rfl, rfl⟩ := hw
  have hP : va_P g.1 xcl (yl_X8_init g a ++ yl_X9_init g a') H := hP
  have hD : va_D (fun q : Nat => s.heap.size ≤ q) (yl_X8_init g a ++ yl_X9_init g a') := hD
  refine lv_astore_n (lv' := [(2, .ref (a' 0)), (1, .ref (a 0)), (0, .ref b)]) hx hb dL_law_15 rfl hl (by decide) rfl (fun ls hl => ?_)
  refine lv_iconst (v := 0) hx hb dL_law_16 (by decide) ?_
  refine lv_istore_n (lv' := [(3, .int 0), (2, .ref (a' 0)), (1, .ref (a 0)), (0, .ref b)]) hx hb dL_law_17 rfl hl (by decide) rfl (fun ls hl => ?_)
  refine W.widen (k := 600000) (n := 7302250) (Nat.le_of_ble_eq_true rfl) (Nat.le_of_ble_eq_true rfl) ?_
  have hx2 : xhas ls 4 (zLV (zG g a a') b 0) := xhas_of hl (fun i v hiv => by
    match i, hiv with
    | 0, h => cases h; simp
    | 1, h =>
      have h : some (some (Value.ref (a 0))) = some (some v) := h
      cases h; simp
    | 2, h =>
      have h : some (some (Value.ref (a' 0))) = some (some v) := h
      cases h; simp
    | 3, h =>
      have h : some (some (Value.int 0)) = some (some v) := h
      cases h; simp
    | n + 4, h => simp [zLV] at h)
  have W0 := law_loop (G := zG g a a') (b := b) (xs := xs) hL (L + 1) 0 zS0 zI0 zJ0 (Nat.zero_le L) (by omega) z_cIv z_mIv p l e s m #[Value.ref b] below meth c (fun q : Nat => s.heap.size ≤ q) ⟨hx, hb, hml, hown, htx, hK, z_inj g a a' hD, z_in g a a' hD, hlocks, hr, hNx⟩ H locs ls hx2 (z_P g a a' hP) hS
  intro T hT X
  obtain ⟨t, a1, b1⟩ := W0 T hT X
  exact ⟨t, a1, b1 ⟨rfl, hX, hbl, hbA, fun q h => h⟩⟩
