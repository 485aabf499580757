set_option maxRecDepth 100000 in
theorem xcin_0 : ∀ w ∈ u_ws RX0 TX0 5, w ∈ xw := by decide +kernel
set_option maxRecDepth 100000 in
theorem xcin_1 : ∀ w ∈ u_ws RX1 TX1 4, w ∈ xw := by decide +kernel
set_option maxRecDepth 100000 in
theorem xcin_2 : ∀ w ∈ u_ws RX2 TX2 8, w ∈ xw := by decide +kernel
set_option maxRecDepth 100000 in
theorem xcin_3 : ∀ w ∈ u_ws RX3 TX3 10, w ∈ xw := by decide +kernel
set_option maxRecDepth 100000 in
theorem xcin_4 : ∀ w ∈ u_ws RX4 TX4 13, w ∈ xw := by decide +kernel
set_option maxRecDepth 100000 in
theorem xcin_5 : ∀ w ∈ u_ws RX5 TX5 4, w ∈ xw := by decide +kernel
set_option maxRecDepth 100000 in
theorem xcin_6 : ∀ w ∈ u_ws RX6 TX6 10, w ∈ xw := by decide +kernel
set_option maxRecDepth 100000 in
theorem xcin_7 : ∀ w ∈ u_ws RX7 TX7 2, w ∈ xw := by decide +kernel
set_option maxRecDepth 100000 in
theorem xcin_8 : ∀ w ∈ u_ws RX8 TX8 9, w ∈ xw := by decide +kernel
set_option maxRecDepth 100000 in
theorem xcin_9 : ∀ w ∈ u_ws RX9 TX9 42, w ∈ xw := by decide +kernel
def xK (q : vw_C) : Prop := (∀ w ∈ u_ws q.1 q.2.1 q.2.2, w ∈ xw) ∧ ∃ ty0 : Nat → FieldType, (∀ k, k < q.2.2 → parseFieldDescriptor (q.2.1 k).2.2.1 = some (ty0 k)) ∧ ∀ a, a < q.2.2 → ∀ b, b < q.2.2 → a ≠ b → (q.2.1 a).2.1 ≠ (q.2.1 b).2.1
theorem xcls : ∀ (ci : Nat) (q : vw_C), xcl[ci]? = some q → xK q
  | 0, q, h => by cases h; exact ⟨xcin_0, tyX0, tyX0_ok, nmX0⟩
  | 1, q, h => by cases h; exact ⟨xcin_1, tyX1, tyX1_ok, nmX1⟩
  | 2, q, h => by cases h; exact ⟨xcin_2, tyX2, tyX2_ok, nmX2⟩
  | 3, q, h => by cases h; exact ⟨xcin_3, tyX3, tyX3_ok, nmX3⟩
  | 4, q, h => by cases h; exact ⟨xcin_4, tyX4, tyX4_ok, nmX4⟩
  | 5, q, h => by cases h; exact ⟨xcin_5, tyX5, tyX5_ok, nmX5⟩
  | 6, q, h => by cases h; exact ⟨xcin_6, tyX6, tyX6_ok, nmX6⟩
  | 7, q, h => by cases h; exact ⟨xcin_7, tyX7, tyX7_ok, nmX7⟩
  | 8, q, h => by cases h; exact ⟨xcin_8, tyX8, tyX8_ok, nmX8⟩
  | 9, q, h => by cases h; exact ⟨xcin_9, tyX9, tyX9_ok, nmX9⟩
  | n + 10, q, h => by simp [xcl] at h
def xlk (own : String) (ix ci j : Nat) : Prop := ∃ q : vw_C, xcl[ci]? = some q ∧ j < q.2.2 ∧ Cond.fieldLink own ix (q.2.1 j).1 (q.2.1 j).2.1 (q.2.1 j).2.2.1 ∈ xw
def xlp (own : String) (ix ci j : Nat) (ty : FieldType) : Prop := ∃ q : vw_C, xcl[ci]? = some q ∧ j < q.2.2 ∧ Cond.fieldLink own ix (q.2.1 j).1 (q.2.1 j).2.1 (q.2.1 j).2.2.1 ∈ xw ∧ (q.2.1 j).2.2.2 = false ∧ parseFieldDescriptor (q.2.1 j).2.2.1 = some ty
theorem xws_o {G : xG} {I : xI} {J : xJ} {k ci j : Nat} {fs : List xs_F} {sp : xs_F} (hl : lay k = .inl (ci, fs)) (hj : fs[j]? = some sp) : (xws G I J)[k]? = some (G.1 k, .inr (ci, xs_fs G.1 (I k) (J k) 0 fs)) := by
  rw [xws_at (lay_lt_o hl hj)]
  simp only [xs_e, xs_c, hl]
theorem xws_a {G : xG} {I : xI} {J : xJ} {k : Nat} {a : Nat × Nat × (Nat → Nat)} (hl : lay k = .inr a) : (xws G I J)[k]? = some (G.1 k, xs_a G (I k) (J k) a) := by
  rw [xws_at (lay_lt_a hl)]
  simp only [xs_e, xs_c, hl]
section XM
variable {G : xG} {F : xM} {Q : xQT} {pc : Nat} {lv : xL} {st : List Value} {I : xI} {J : xJ}
theorem xr_getI {k ci ix j : Nat} {fs : List xs_F} (hd : decode F.2.1 pc = .ok (.getfield ix, 3)) (hw : xlk F.1.cls ix ci j) (hl : lay k = .inl (ci, fs)) (hj : fs[j]? = some (.inr false)) (kk : xT G F Q (pc + 3) lv (.int (I k j) :: st) I J) : xT G F Q pc lv (.ref (G.1 k) :: st) I J := by
  intro p l e s m args below meth c A C H locs ls hl2 hP hS
  obtain ⟨q, hc, hjn, hlink⟩ := hw
  refine va_get (D := G.2.1) (ci := ci) (v := .int (I k j)) (C := q.1) (T := q.2.1) (N := q.2.2) C.1 C.2.1 C.2.2.2.2.1 (xcls ci q hc).1 C.2.2.2.1 C.2.2.2.2.2.1 hP k (xws_o hl hj) hc j hjn (C.2.2.2.2.1 _ hlink) (fun _ h => h) ?_ hd (kk p l e s m args below meth c A C H locs ls hl2 hP hS)
  rw [xs_fs_at, hj]
  simp [xs_v]
theorem xr_getJ {k ci ix j : Nat} {fs : List xs_F} (hd : decode F.2.1 pc = .ok (.getfield ix, 3)) (hw : xlk F.1.cls ix ci j) (hl : lay k = .inl (ci, fs)) (hj : fs[j]? = some (.inr true)) (kk : xT G F Q (pc + 3) lv (.long (J k j) :: st) I J) : xT G F Q pc lv (.ref (G.1 k) :: st) I J := by
  intro p l e s m args below meth c A C H locs ls hl2 hP hS
  obtain ⟨q, hc, hjn, hlink⟩ := hw
  refine va_get (D := G.2.1) (ci := ci) (v := .long (J k j)) (C := q.1) (T := q.2.1) (N := q.2.2) C.1 C.2.1 C.2.2.2.2.1 (xcls ci q hc).1 C.2.2.2.1 C.2.2.2.2.2.1 hP k (xws_o hl hj) hc j hjn (C.2.2.2.2.1 _ hlink) (fun _ h => h) ?_ hd (kk p l e s m args below meth c A C H locs ls hl2 hP hS)
  rw [xs_fs_at, hj]
  simp [xs_v]
theorem xr_getR {k ci ix j r : Nat} {fs : List xs_F} (hd : decode F.2.1 pc = .ok (.getfield ix, 3)) (hw : xlk F.1.cls ix ci j) (hl : lay k = .inl (ci, fs)) (hj : fs[j]? = some (.inl r)) (kk : xT G F Q (pc + 3) lv (.ref (G.1 r) :: st) I J) : xT G F Q pc lv (.ref (G.1 k) :: st) I J := by
  intro p l e s m args below meth c A C H locs ls hl2 hP hS
  obtain ⟨q, hc, hjn, hlink⟩ := hw
  refine va_get (D := G.2.1) (ci := ci) (v := .ref (G.1 r)) (C := q.1) (T := q.2.1) (N := q.2.2) C.1 C.2.1 C.2.2.2.2.1 (xcls ci q hc).1 C.2.2.2.1 C.2.2.2.2.2.1 hP k (xws_o hl hj) hc j hjn (C.2.2.2.2.1 _ hlink) (fun _ h => h) ?_ hd (kk p l e s m args below meth c A C H locs ls hl2 hP hS)
  rw [xs_fs_at, hj]
  simp [xs_v]
theorem xr_putI {k ci ix j : Nat} {fs : List xs_F} {x : Int32} (hd : decode F.2.1 pc = .ok (.putfield ix, 3)) (hw : xlp F.1.cls ix ci j .int) (hl : lay k = .inl (ci, fs)) (hj : fs[j]? = some (.inr false)) (kk : xT G F Q (pc + 3) lv st (va_up I k (upd (I k) j x)) J) : xT G F Q pc lv (.int x :: .ref (G.1 k) :: st) I J := by
  intro p l e s m args below meth c A C H locs ls hl2 hP hS
  obtain ⟨q, hc, hjn, hlink, hfin, hpd⟩ := hw
  obtain ⟨hin, ty0, hty, hnm⟩ := xcls ci q hc
  have hD : va_D A (xws G I J) := xD C.2.2.2.2.2.2.1 C.2.2.2.2.2.2.2.1
  have hjl : j < (xs_fs G.1 (I k) (J k) 0 fs).length := by
    rw [xs_fs_len]; exact (List.getElem?_eq_some_iff.mp hj).1
  refine va_put (D := G.2.1) (ci := ci) (v := .int x) (ty := .int) (C := q.1) (T := q.2.1) (N := q.2.2) C.1 C.2.1 C.2.2.2.2.1 hin ty0 hty hnm C.2.2.2.1 C.2.2.2.2.2.1 hP hD hS k (xws_o hl hj) hc j hjn (C.2.2.2.2.1 _ hlink) (fun _ h => h) hfin hpd rfl rfl hjl hd (fun H1 locs1 hP1 hD1 hS1 => kk p l e s m args below meth c A C H1 locs1 ls hl2 ?_ hS1)
  rw [xs_fs_setI G.1 (I k) (J k) hj x, xws_setI (i := upd (I k) j x) (lay_lt_o hl hj) (by simp only [xs_c, hl])] at hP1
  exact hP1
theorem xr_putZ {k ci ix j : Nat} {fs : List xs_F} {x : Int32} (hd : decode F.2.1 pc = .ok (.putfield ix, 3)) (hw : xlp F.1.cls ix ci j .boolean) (hl : lay k = .inl (ci, fs)) (hj : fs[j]? = some (.inr false)) (hx : x = 0 ∨ x = 1) (kk : xT G F Q (pc + 3) lv st (va_up I k (upd (I k) j x)) J) : xT G F Q pc lv (.int x :: .ref (G.1 k) :: st) I J := by
  intro p l e s m args below meth c A C H locs ls hl2 hP hS
  obtain ⟨q, hc, hjn, hlink, hfin, hpd⟩ := hw
  obtain ⟨hin, ty0, hty, hnm⟩ := xcls ci q hc
  have hD : va_D A (xws G I J) := xD C.2.2.2.2.2.2.1 C.2.2.2.2.2.2.2.1
  have hjl : j < (xs_fs G.1 (I k) (J k) 0 fs).length := by
    rw [xs_fs_len]; exact (List.getElem?_eq_some_iff.mp hj).1
  refine va_put (D := G.2.1) (ci := ci) (v := .int x) (ty := .boolean) (C := q.1) (T := q.2.1) (N := q.2.2) C.1 C.2.1 C.2.2.2.2.1 hin ty0 hty hnm C.2.2.2.1 C.2.2.2.2.2.1 hP hD hS k (xws_o hl hj) hc j hjn (C.2.2.2.2.1 _ hlink) (fun _ h => h) hfin hpd (by rcases hx with h | h <;> subst h <;> decide) (by rcases hx with h | h <;> subst h <;> decide) hjl hd (fun H1 locs1 hP1 hD1 hS1 => kk p l e s m args below meth c A C H1 locs1 ls hl2 ?_ hS1)
  rw [xs_fs_setI G.1 (I k) (J k) hj x, xws_setI (i := upd (I k) j x) (lay_lt_o hl hj) (by simp only [xs_c, hl])] at hP1
  exact hP1
theorem xr_putJ {k ci ix j : Nat} {fs : List xs_F} {x : Int64} (hd : decode F.2.1 pc = .ok (.putfield ix, 3)) (hw : xlp F.1.cls ix ci j .long) (hl : lay k = .inl (ci, fs)) (hj : fs[j]? = some (.inr true)) (kk : xT G F Q (pc + 3) lv st I (va_up J k (vp_updL (J k) j x))) : xT G F Q pc lv (.long x :: .ref (G.1 k) :: st) I J := by
  intro p l e s m args below meth c A C H locs ls hl2 hP hS
  obtain ⟨q, hc, hjn, hlink, hfin, hpd⟩ := hw
  obtain ⟨hin, ty0, hty, hnm⟩ := xcls ci q hc
  have hD : va_D A (xws G I J) := xD C.2.2.2.2.2.2.1 C.2.2.2.2.2.2.2.1
  have hjl : j < (xs_fs G.1 (I k) (J k) 0 fs).length := by
    rw [xs_fs_len]; exact (List.getElem?_eq_some_iff.mp hj).1
  refine va_put (D := G.2.1) (ci := ci) (v := .long x) (ty := .long) (C := q.1) (T := q.2.1) (N := q.2.2) C.1 C.2.1 C.2.2.2.2.1 hin ty0 hty hnm C.2.2.2.1 C.2.2.2.2.2.1 hP hD hS k (xws_o hl hj) hc j hjn (C.2.2.2.2.1 _ hlink) (fun _ h => h) hfin hpd rfl rfl hjl hd (fun H1 locs1 hP1 hD1 hS1 => kk p l e s m args below meth c A C H1 locs1 ls hl2 ?_ hS1)
  rw [xs_fs_setJ G.1 (I k) (J k) hj x, xws_setJ (j := vp_updL (J k) j x) (lay_lt_o hl hj) (by simp only [xs_c, hl])] at hP1
  exact hP1
theorem xr_iald {k n : Nat} {rf : Nat → Nat} {i : Int32} (j : Nat) (hd : decode F.2.1 pc = .ok (.iaload, 1)) (hl : lay k = .inr (0, n, rf)) (hi : i = nI j) (hj : j < n) (hn : n < 2 ^ 31) (kk : xT G F Q (pc + 1) lv (.int (I k j) :: st) I J) : xT G F Q pc lv (.int i :: .ref (G.1 k) :: st) I J := by
  intro p l e s m args below meth c A C H locs ls hl2 hP hS
  subst hi
  refine va_iald (D := G.2.1) C.1 C.2.1 C.2.2.2.2.2.1 hP k 0 (xws_a hl) rfl (vp_in_nI hj hn) hd ?_
  rw [nI_clamp (by omega)]
  exact kk p l e s m args below meth c A C H locs ls hl2 hP hS
theorem xr_zald {k n : Nat} {rf : Nat → Nat} {i : Int32} (j : Nat) (hd : decode F.2.1 pc = .ok (.baload, 1)) (hl : lay k = .inr (2, n, rf)) (hi : i = nI j) (hj : j < n) (hn : n < 2 ^ 31) (kk : xT G F Q (pc + 1) lv (.int (I k j) :: st) I J) : xT G F Q pc lv (.int i :: .ref (G.1 k) :: st) I J := by
  intro p l e s m args below meth c A C H locs ls hl2 hP hS
  subst hi
  refine va_zald (D := G.2.1) C.1 C.2.1 C.2.2.2.2.2.1 hP k 2 (xws_a hl) rfl (vp_in_nI hj hn) hd ?_
  rw [nI_clamp (by omega)]
  exact kk p l e s m args below meth c A C H locs ls hl2 hP hS
theorem xr_lald {k n : Nat} {rf : Nat → Nat} {i : Int32} (j : Nat) (hd : decode F.2.1 pc = .ok (.laload, 1)) (hl : lay k = .inr (1, n, rf)) (hi : i = nI j) (hj : j < n) (hn : n < 2 ^ 31) (kk : xT G F Q (pc + 1) lv (.long (J k j) :: st) I J) : xT G F Q pc lv (.int i :: .ref (G.1 k) :: st) I J := by
  intro p l e s m args below meth c A C H locs ls hl2 hP hS
  subst hi
  refine va_lald (D := G.2.1) C.1 C.2.1 C.2.2.2.2.2.1 hP k 1 (xws_a hl) rfl (vp_in_nI hj hn) hd ?_
  rw [nI_clamp (by omega)]
  exact kk p l e s m args below meth c A C H locs ls hl2 hP hS
theorem xr_aald3 {k n : Nat} {rf : Nat → Nat} {i : Int32} (j : Nat) (hd : decode F.2.1 pc = .ok (.aaload, 1)) (hl : lay k = .inr (3, n, rf)) (hi : i = nI j) (hj : j < n) (hn : n < 2 ^ 31) (kk : xT G F Q (pc + 1) lv (.ref (G.1 (rf j)) :: st) I J) : xT G F Q pc lv (.int i :: .ref (G.1 k) :: st) I J := by
  intro p l e s m args below meth c A C H locs ls hl2 hP hS
  subst hi
  refine va_aldq (D := G.2.1) C.1 C.2.1 C.2.2.2.2.2.1 hP k 3 (xws_a hl) rfl (vp_in_nI hj hn) hd ?_
  rw [nI_clamp (by omega)]
  exact kk p l e s m args below meth c A C H locs ls hl2 hP hS
theorem xr_aald4 {k n : Nat} {rf : Nat → Nat} {i : Int32} (j : Nat) (hd : decode F.2.1 pc = .ok (.aaload, 1)) (hl : lay k = .inr (4, n, rf)) (hi : i = nI j) (hj : j < n) (hn : n < 2 ^ 31) (kk : xT G F Q (pc + 1) lv (.ref (G.1 (rf j)) :: st) I J) : xT G F Q pc lv (.int i :: .ref (G.1 k) :: st) I J := by
  intro p l e s m args below meth c A C H locs ls hl2 hP hS
  subst hi
  refine va_aldq (D := G.2.1) C.1 C.2.1 C.2.2.2.2.2.1 hP k 4 (xws_a hl) rfl (vp_in_nI hj hn) hd ?_
  rw [nI_clamp (by omega)]
  exact kk p l e s m args below meth c A C H locs ls hl2 hP hS
theorem xr_alen0 {k n : Nat} {rf : Nat → Nat} (hd : decode F.2.1 pc = .ok (.arraylength, 1)) (hl : lay k = .inr (0, n, rf)) (kk : xT G F Q (pc + 1) lv (.int (nI n) :: st) I J) : xT G F Q pc lv (.ref (G.1 k) :: st) I J := by
  intro p l e s m args below meth c A C H locs ls hl2 hP hS
  exact va_alen (D := G.2.1) (x := (n, .inl (I k))) C.1 C.2.1 C.2.2.2.2.2.1 hP k 0 (xws_a hl) rfl rfl hd (kk p l e s m args below meth c A C H locs ls hl2 hP hS)
theorem xr_alen1 {k n : Nat} {rf : Nat → Nat} (hd : decode F.2.1 pc = .ok (.arraylength, 1)) (hl : lay k = .inr (1, n, rf)) (kk : xT G F Q (pc + 1) lv (.int (nI n) :: st) I J) : xT G F Q pc lv (.ref (G.1 k) :: st) I J := by
  intro p l e s m args below meth c A C H locs ls hl2 hP hS
  exact va_alen (D := G.2.1) (x := (n, .inr (.inl (J k)))) C.1 C.2.1 C.2.2.2.2.2.1 hP k 1 (xws_a hl) rfl rfl hd (kk p l e s m args below meth c A C H locs ls hl2 hP hS)
theorem xr_iast {k n : Nat} {rf : Nat → Nat} {i x : Int32} (j : Nat) (hd : decode F.2.1 pc = .ok (.iastore, 1)) (hl : lay k = .inr (0, n, rf)) (hi : i = nI j) (hj : j < n) (hn : n < 2 ^ 31) (kk : xT G F Q (pc + 1) lv st (va_up I k (upd (I k) j x)) J) : xT G F Q pc lv (.int x :: .int i :: .ref (G.1 k) :: st) I J := by
  intro p l e s m args below meth c A C H locs ls hl2 hP hS
  subst hi
  have hD : va_D A (xws G I J) := xD C.2.2.2.2.2.2.1 C.2.2.2.2.2.2.2.1
  refine va_iast (D := G.2.1) C.1 C.2.1 C.2.2.2.2.2.1 hP hD hS k 0 (xws_a hl) rfl (vp_in_nI hj hn) hd (fun H1 locs1 hP1 hD1 hS1 => kk p l e s m args below meth c A C H1 locs1 ls hl2 ?_ hS1)
  rw [nI_clamp (by omega), xws_setI (i := upd (I k) j x) (lay_lt_a hl) (by simp only [xs_c, hl]; rfl)] at hP1
  exact hP1
theorem xr_zast {k n : Nat} {rf : Nat → Nat} {i x : Int32} (j : Nat) (hd : decode F.2.1 pc = .ok (.bastore, 1)) (hl : lay k = .inr (2, n, rf)) (hi : i = nI j) (hj : j < n) (hn : n < 2 ^ 31) (hx : x = 0 ∨ x = 1) (kk : xT G F Q (pc + 1) lv st (va_up I k (upd (I k) j x)) J) : xT G F Q pc lv (.int x :: .int i :: .ref (G.1 k) :: st) I J := by
  intro p l e s m args below meth c A C H locs ls hl2 hP hS
  subst hi
  have hD : va_D A (xws G I J) := xD C.2.2.2.2.2.2.1 C.2.2.2.2.2.2.2.1
  refine va_zast (D := G.2.1) C.1 C.2.1 C.2.2.2.2.2.1 hP hD hS k 2 (xws_a hl) rfl (vp_in_nI hj hn) hd (fun H1 locs1 hP1 hD1 hS1 => kk p l e s m args below meth c A C H1 locs1 ls hl2 ?_ hS1)
  rw [nI_clamp (by omega), show vp_nar .boolean x = x by rcases hx with h | h <;> subst h <;> decide, xws_setI (i := upd (I k) j x) (lay_lt_a hl) (by simp only [xs_c, hl]; rfl)] at hP1
  exact hP1
theorem xr_last {k n : Nat} {rf : Nat → Nat} {i : Int32} {x : Int64} (j : Nat) (hd : decode F.2.1 pc = .ok (.lastore, 1)) (hl : lay k = .inr (1, n, rf)) (hi : i = nI j) (hj : j < n) (hn : n < 2 ^ 31) (kk : xT G F Q (pc + 1) lv st I (va_up J k (vp_updL (J k) j x))) : xT G F Q pc lv (.long x :: .int i :: .ref (G.1 k) :: st) I J := by
  intro p l e s m args below meth c A C H locs ls hl2 hP hS
  subst hi
  have hD : va_D A (xws G I J) := xD C.2.2.2.2.2.2.1 C.2.2.2.2.2.2.2.1
  refine va_last (D := G.2.1) C.1 C.2.1 C.2.2.2.2.2.1 hP hD hS k 1 (xws_a hl) rfl (vp_in_nI hj hn) hd (fun H1 locs1 hP1 hD1 hS1 => kk p l e s m args below meth c A C H1 locs1 ls hl2 ?_ hS1)
  rw [nI_clamp (by omega), xws_setJ (j := vp_updL (J k) j x) (lay_lt_a hl) (by simp only [xs_c, hl]; rfl)] at hP1
  exact hP1
-- returns
def xpi (post : Int32 → xI → xJ → Prop) : Option Value → xI → xJ → Prop := fun r I J => ∃ v : Int32, r = some (.int v) ∧ post v I J
def xpl (post : Int64 → xI → xJ → Prop) : Option Value → xI → xJ → Prop := fun r I J => ∃ v : Int64, r = some (.long v) ∧ post v I J
def xpv (post : xI → xJ → Prop) : Option Value → xI → xJ → Prop := fun r I J => r = none ∧ post I J
theorem xr_iret {post : Int32 → xI → xJ → Prop} {v : Int32} (hd : decode F.2.1 pc = .ok (.ireturn, 1)) (hr : F.2.2.2.1 = some .int) (hz : F.2.2.2.2.2 = (0, 0)) (hp : post v I J) : xT G F (xMQ G (xpi post)) pc lv [.int v] I J := by
  intro p l e s m args below meth c A C H locs ls hl2 hP hS
  rw [show F.2.2.2.2.2.1 = 0 by rw [hz], show F.2.2.2.2.2.2 = 0 by rw [hz]]
  exact W.iret (v := v) C.1 C.2.1 (C.2.2.2.2.2.2.2.2.2.1.trans hr) (fun t ht hW => ⟨⟨some (.int v), I, J, rfl, ⟨v, rfl, hp⟩, by rw [ht]; exact hP⟩, hS.F ht⟩) hS.2.2 hd C.2.2.2.2.2.2.2.2.1
theorem xr_zret {post : Int32 → xI → xJ → Prop} {v : Int32} (hd : decode F.2.1 pc = .ok (.ireturn, 1)) (hr : F.2.2.2.1 = some .boolean) (hz : F.2.2.2.2.2 = (0, 0)) (hv : v = 0 ∨ v = 1) (hp : post v I J) : xT G F (xMQ G (xpi post)) pc lv [.int v] I J := by
  intro p l e s m args below meth c A C H locs ls hl2 hP hS
  rw [show F.2.2.2.2.2.1 = 0 by rw [hz], show F.2.2.2.2.2.2 = 0 by rw [hz]]
  exact W.zret (v := v) (ty := .boolean) C.1 C.2.1 (C.2.2.2.2.2.2.2.2.2.1.trans hr) (by rcases hv with h | h <;> subst h <;> decide) (fun t ht hW => ⟨⟨some (.int v), I, J, rfl, ⟨v, rfl, hp⟩, by rw [ht]; exact hP⟩, hS.F ht⟩) hS.2.2 hd C.2.2.2.2.2.2.2.2.1
theorem xr_lret {post : Int64 → xI → xJ → Prop} {v : Int64} (hd : decode F.2.1 pc = .ok (.lreturn, 1)) (hr : F.2.2.2.1 = some .long) (hz : F.2.2.2.2.2 = (0, 0)) (hp : post v I J) : xT G F (xMQ G (xpl post)) pc lv [.long v] I J := by
  intro p l e s m args below meth c A C H locs ls hl2 hP hS
  rw [show F.2.2.2.2.2.1 = 0 by rw [hz], show F.2.2.2.2.2.2 = 0 by rw [hz]]
  exact W.lret (v := v) C.1 C.2.1 (C.2.2.2.2.2.2.2.2.2.1.trans hr) (fun t ht hW => ⟨⟨some (.long v), I, J, rfl, ⟨v, rfl, hp⟩, by rw [ht]; exact hP⟩, hS.F ht⟩) hS.2.2 hd C.2.2.2.2.2.2.2.2.1
theorem xr_vret {post : xI → xJ → Prop} (hd : decode F.2.1 pc = .ok (.return_, 1)) (hr : F.2.2.2.1 = none) (hz : F.2.2.2.2.2 = (0, 0)) (hp : post I J) : xT G F (xMQ G (xpv post)) pc lv [] I J := by
  intro p l e s m args below meth c A C H locs ls hl2 hP hS
  rw [show F.2.2.2.2.2.1 = 0 by rw [hz], show F.2.2.2.2.2.2 = 0 by rw [hz]]
  exact W.vret C.1 C.2.1 (C.2.2.2.2.2.2.2.2.2.1.trans hr) (fun t ht hW => ⟨⟨none, I, J, rfl, ⟨rfl, hp⟩, by rw [ht]; exact hP⟩, hS.F ht⟩) hS.2.2 hd C.2.2.2.2.2.2.2.2.1
theorem xCon.mono {av : List Value} {post post' : Option Value → xI → xJ → Prop} (h : xCon G F av I J post) (hp : ∀ r I' J', post r I' J' → post' r I' J') : xCon G F av I J post' := by
  intro l p e ha hc hk s m args below hf happ hP hT
  obtain ⟨k, o, a1, a2, a3, ⟨⟨⟨r, I', J', b1, b2, b3⟩, b4⟩, b5⟩⟩ := h l p e ha hc hk s m args below hf happ hP hT
  exact ⟨k, o, a1, a2, a3, ⟨⟨⟨r, I', J', b1, hp _ _ _ b2, b3⟩, b4⟩, b5⟩⟩
-- calls
theorem xPc_blind {av : List Value} : FrameBlind (xPc G av I J) := fun a U g mk q => by
  obtain ⟨q0, qP, qK, qN, qI⟩ := q
  exact ⟨q0, qP, va_K.moved (u := U) (U := U.calling g mk a) (Vm.Alike.refl U.vm) qK, va_Nw.same rfl rfl qN, qI⟩
theorem xPc_in {p : Program} {s : State} {m : MethodId} {args : Array Value} {meth : Method} {c : Code} {A : Nat → Prop} {H : Heap} {av : List Value} (C : xC G F p s m args meth c A) (hP : va_P G.2.1 xcl (xws G I J) H) : ∀ U : State, U.heap = H → s.WarmedH U.vm → xPc G av I J av.toArray U := fun U hU hW => ⟨rfl, by rw [hU]; exact hP, va_K.moved hW.alike C.2.2.2.2.2.1, va_Nw.warmM hW C.2.2.2.2.2.2.2.2.2.2, C.2.2.2.2.2.2.1⟩
theorem x_after {p : Program} {l : Launch} {e : Env} {R : Room} {s : State} {m : MethodId} {args : Array Value} {below : List Frame} {meth : Method} {c : Code} {H : Heap} {locs : List Loc} {cells slots : Nat} {QQ : State → Prop} {ls : Array Slot} {rest st0 : List Value} {a : Array Value} {A : Nat → Prop} {post : Option Value → xI → xJ → Prop}
    (hr : va_Run p l e R s m args below meth c H locs cells slots 0 0 (F0 m pc ls st0) rest (xQc G post (xA G) a) (xA G)) (hS : va_S A s.heap H locs) (hA : ∀ q, xA G q → A q)
    (kk : ∀ (r : Option Value) (I' : xI) (J' : xJ) (H1 : Heap) (locs1 : List Loc), post r I' J' → va_P G.2.1 xcl (xws G I' J') H1 → va_S A s.heap H1 locs1 → W p l e R s m args below meth c H1 locs1 cells slots QQ (F0 m (pc + 3) ls (r.toList ++ rest))) : W p l e R s m args below meth c H locs cells slots QQ (F0 m pc ls st0) := by
  intro T hT X
  obtain ⟨v, st₀, t, T', L, h0, X', hL, e1, e2, ⟨⟨r, I', J', hv, hp, hb⟩, hz, hk⟩, st⟩ := hr T hT X
  cases hv
  rw [h0] at hz hk
  obtain ⟨t2, a1, b1⟩ := kk v I' J' T'.heap (locs ++ L) hp (by rw [e1]; exact hb)
    ⟨Nat.le_trans hS.1 (by rw [e1]; exact hz), fun q h1 h2 => by rw [e1, hk q (Nat.lt_of_lt_of_le h1 hS.1) (fun z => h2 (hA q z))]; exact hS.2.1 q h1 h2, fun q hq => by
      rcases List.mem_append.mp hq with h | h
      · exact hS.2.2 q h
      · exact hA _ (hL q h)⟩ T' rfl X'
  exact ⟨t2, st t2 a1, b1⟩
def xcb (F F' : xM) (n : Nat) : Prop := Cond.code F'.1 F'.2.1 F'.2.2.1 F'.2.2.2.1 ∈ xw ∧ Cond.initialized F'.1.cls ∈ xw ∧ (F'.1.cls ≠ "java/lang/invoke/MethodHandle" ∧ F'.1.cls ≠ "java/lang/invoke/VarHandle" ∧ (parseMethodDescriptor F'.1.desc).map (fun d => d.parameters.length) = some n) ∧ (F'.2.2.2.2.1.frames + 1 ≤ F.2.2.2.2.1.frames ∧ 8 + (F'.2.2.1 + 11) + F'.2.2.2.2.1.locals ≤ F.2.2.2.2.1.locals) ∧ F'.2.2.2.2.1.cells = 0 ∧ F'.2.2.2.2.1.slots = 0 ∧ F.2.2.2.2.2.1 ≤ F.2.2.2.2.1.cells ∧ F.2.2.2.2.2.2 ≤ F.2.2.2.2.1.slots
def xcv (F F' : xM) (ix n : Nat) : Prop := xcb F F' n ∧ Cond.methodLink F.1.cls ix F'.1 ∈ xw ∧ Cond.instanceMethod F'.1 ∈ xw ∧ Cond.selects F'.1.cls F'.1 F'.1 ∈ xw
def xcs (F F' : xM) (ix n : Nat) : Prop := xcb F F' n ∧ Cond.methodLink F.1.cls ix F'.1 ∈ xw ∧ Cond.static F'.1 ∈ xw
theorem xcb.B {p : Program} {s : State} {m : MethodId} {args : Array Value} {meth : Method} {c : Code} {A : Nat → Prop} {F' : xM} {ix n : Nat} (h : xcb F F' n) (hl : Cond.methodLink F.1.cls ix F'.1 ∈ xw) (C : xC G F p s m args meth c A) : CallB F.2.2.2.2.1 s args F.1.cls ix F'.1 F'.2.1 F'.2.2.1 F'.2.2.2.1 (xown F') F'.2.2.2.2.1 0 0 n := by
  obtain ⟨h1, h2, h3, h4, h5, h6, h7, h8⟩ := h
  have hts := C.2.2.2.2.1
  exact callB_of (Ts := xw) (ws' := xw) n hts (fun w hw => by
    rcases List.mem_cons.mp hw with e | h
    · subst e
      exact ⟨h1, good_of_word (xw_good h1)⟩
    · exact ⟨h, good_of_word (xw_good h)⟩) rfl h5 h6 (hts _ h2) (hts _ hl) h3 h4
theorem xr_callV {F' : xM} {ix b n ci : Nat} {fs : List xs_F} {st0 : List Value} {post : Option Value → xI → xJ → Prop} (As : List Value) (hd : decode F.2.1 pc = .ok (.invokevirtual ix, 3)) (hw : xcv F F' ix n) (hn : As.length = n) (hl : lay b = .inl (ci, fs)) (hc0 : (xcl[ci]?).map (fun q => q.1) = some F'.1.cls) (hb : b < xN) (hst : st0 = As.reverse ++ .ref (G.1 b) :: st) (hrm : (st.map fun v => v.category).sum ≤ 8) (hc : xCon G F' (.ref (G.1 b) :: As) I J post) (kk : ∀ r I' J', post r I' J' → xT G F Q (pc + 3) lv (r.toList ++ st) I' J') : xT G F Q pc lv st0 I J := by
  intro p l e s m args below meth c A C H locs ls hl2 hP hS
  obtain ⟨hcb, hw1, hw2, hw3⟩ := hw
  have hts := C.2.2.2.2.1
  cases hq : xcl[ci]? with
  | none => rw [hq] at hc0; cases hc0
  | some q =>
    rw [hq] at hc0
    have hqc : q.1 = F'.1.cls := Option.some.inj hc0
    have he : (xws G I J)[b]? = some (G.1 b, .inr (ci, xs_fs G.1 (I b) (J b) 0 fs)) := by
      rw [xws_at hb]; simp only [xs_e, xs_c, hl]
    refine x_after (va_runV (C := F'.1.cls) (nL := F.2.2.1) (cc := F.2.1) (own := F.1.cls) (Ts := xw) (As := As) (rest := st) ⟨C.1, C.2.1, C.2.2.1, C.2.2.2.1, hts⟩ (hc l) ⟨hcb.B hw1 C, hts _ hw2, hts _ hw3⟩ ⟨xPc_blind, ?_, xPc_in C hP⟩ rfl hn hl2.1 hst (lv_room hrm) hd ⟨hcb.2.2.2.2.2.2.1, hcb.2.2.2.2.2.2.2⟩) hS (fun q hq => ?_) (fun r I' J' H1 locs1 hp hP1 hS1 => kk r I' J' hp p l e s m args below meth c A C H1 locs1 ls hl2 hP1 hS1)
    · have := va_recv C.2.2.2.2.2.1 hP hq he
      rw [hqc] at this
      exact this
    · obtain ⟨k, hk, rfl⟩ := hq
      exact C.2.2.2.2.2.2.2.1 k hk
theorem xr_callS {F' : xM} {ix n : Nat} {st0 : List Value} {post : Option Value → xI → xJ → Prop} (As : List Value) (hd : decode F.2.1 pc = .ok (.invokestatic ix, 3)) (hw : xcs F F' ix n) (hn : As.length = n) (hst : st0 = As.reverse ++ st) (hrm : (st.map fun v => v.category).sum ≤ 8) (hc : xCon G F' As I J post) (kk : ∀ r I' J', post r I' J' → xT G F Q (pc + 3) lv (r.toList ++ st) I' J') : xT G F Q pc lv st0 I J := by
  intro p l e s m args below meth c A C H locs ls hl2 hP hS
  obtain ⟨hcb, hw1, hw2⟩ := hw
  have hts := C.2.2.2.2.1
  refine x_after (va_runS (nL := F.2.2.1) (cc := F.2.1) (own := F.1.cls) (Ts := xw) (As := As) (rest := st) ⟨C.1, C.2.1, C.2.2.1, C.2.2.2.1, hts⟩ (hc l) ⟨hcb.B hw1 C, hts _ hw2⟩ ⟨xPc_blind, xPc_in C hP⟩ rfl hn hl2.1 hst (lv_room hrm) hd ⟨hcb.2.2.2.2.2.2.1, hcb.2.2.2.2.2.2.2⟩) hS (fun q hq => ?_) (fun r I' J' H1 locs1 hp hP1 hS1 => kk r I' J' hp p l e s m args below meth c A C H1 locs1 ls hl2 hP1 hS1)
  obtain ⟨k, hk, rfl⟩ := hq
  exact C.2.2.2.2.2.2.2.1 k hk
theorem xr_callG {F' : xM} {n : Nat} {st0 : List Value} {post : Option Value → xI → xJ → Prop} (As : List Value) (hd : decode F.2.1 pc = .ok (.invokestatic 60, 3)) (hF : F.1.cls = RX3) (hF' : F'.1 = yX8_isGoal) (hcb : xcb F F' n) (hw2 : Cond.static F'.1 ∈ xw) (hn : As.length = n) (hst : st0 = As.reverse ++ st) (hrm : (st.map fun v => v.category).sum ≤ 8) (hc : xCon G F' As I J post) (kk : ∀ r I' J', post r I' J' → xT G F Q (pc + 3) lv (r.toList ++ st) I' J') : xT G F Q pc lv st0 I J := by
  intro p l e s m args below meth c A C H locs ls hl2 hP hS
  have hts := C.2.2.2.2.1
  have hcw : va_CN F.2.2.2.2.1 s args F.1.cls 60 F'.1 RX8 F'.2.1 F'.2.2.1 F'.2.2.2.1 (xown F') F'.2.2.2.2.1 0 0 n := by
    obtain ⟨h1, h2, h3, h4, h5, h6, h7, h8⟩ := hcb
    exact va_cnB (Ts := xw) (ws' := xw) n hts (fun w hw => by
      rcases List.mem_cons.mp hw with e | h
      · subst e
        exact ⟨h1, good_of_word (xw_good h1)⟩
      · exact ⟨h, good_of_word (xw_good h)⟩) rfl h5 h6 (by rw [hF, hF']; exact C.2.2.2.2.2.2.2.2.2.2) (hts _ h2) h3 h4
  refine x_after (va_runSN (nL := F.2.2.1) (cc := F.2.1) (own := F.1.cls) (Ts := xw) (As := As) (rest := st) ⟨C.1, C.2.1, C.2.2.1, C.2.2.2.1, hts⟩ (hc l) ⟨hcw, hts _ hw2, trivial⟩ ⟨xPc_blind, xPc_in C hP⟩ rfl hn hl2.1 hst (lv_room hrm) hd ⟨hcb.2.2.2.2.2.2.1, hcb.2.2.2.2.2.2.2⟩) hS (fun q hq => ?_) (fun r I' J' H1 locs1 hp hP1 hS1 => kk r I' J' hp p l e s m args below meth c A C H1 locs1 ls hl2 hP1 hS1)
  obtain ⟨k, hk, rfl⟩ := hq
  exact C.2.2.2.2.2.2.2.1 k hk
end XM
