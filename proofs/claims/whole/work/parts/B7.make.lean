/-! making: constructors, over a world that is a list of cells and grows -/
abbrev yG : Type := va_G × (Nat → ClassId)
abbrev ytys (g : yG) : List (ClassId × FieldType) := [(g.2 0, .int), (g.2 1, .long), (g.2 2, .boolean), (g.2 3, .object "SwitchTower$Sheet"), (g.2 4, .object "SwitchTower$Word")]
def yns : List (String × Nat × MethodName) := [(RX8, 25, yX7_init), (RX8, 32, yX3_init), (RX8, 39, yX2_init), (RX8, 46, yX1_init), (RX8, 53, yX4_init), (RX4, 41, yX7_init), (RX8, 60, yX6_init), (RX6, 11, yX4_init), (RX6, 20, yX7_init), (RX8, 65, yX5_init)]
def yNw (U : State) : Prop := (∀ q ∈ yns, va_Nw (.methodLinkNest q.1 q.2.1 q.2.2 RX8) U) ∧ va_AO "SwitchTower$Sheet" U ∧ va_AO "SwitchTower$Word" U
theorem yNw.warm {s U : State} (hW : s.WarmedH U.vm) (h : yNw s) : yNw U := ⟨fun q hq => va_Nw.warmM hW (h.1 q hq), h.2.1.moved hW.alike, h.2.2.moved hW.alike⟩
theorem yNw.blind {U : State} {g : JFrame} {mk : MethodId} {a : Array Value} (h : yNw U) : yNw (U.calling g mk a) := ⟨fun q hq => va_Nw.same rfl rfl (h.1 q hq), h.2.1.moved (u := U) (U := U.calling g mk a) (Vm.Alike.refl U.vm), h.2.2.moved (u := U) (U := U.calling g mk a) (Vm.Alike.refl U.vm)⟩
def yC (g : yG) (F : xM) (p : Program) (s : State) (m : MethodId) (args : Array Value) (meth : Method) (c : Code) (A : Nat → Prop) : Prop :=
  p.tables.exec = Jvm.exec ∧ c.code = F.2.1 ∧ c.maxLocals = F.2.2.1 ∧ s.vm.findClass F.1.cls = some m.cls ∧ (∀ w ∈ xw, w.before args s = true) ∧ va_K g.1 xcl (ytys g) s ∧ (∀ q, s.heap.size ≤ q → A q) ∧ meth.locks = false ∧ meth.sig.returnType = F.2.2.2.1 ∧ yNw s ∧ meth.name = "<init>"
def yT (g : yG) (F : xM) (Q : xQT) (pc : Nat) (lv : xL) (st : List Value) (ws : va_W) (nc ns : Nat) : Prop :=
  ∀ (p : Program) (l : Launch) (e : Env) (s : State) (m : MethodId) (args : Array Value) (below : List Frame) (meth : Method) (c : Code) (A : Nat → Prop), yC g F p s m args meth c A →
  ∀ (H : Heap) (locs : List Loc) (ls : Array Slot), xhas ls F.2.2.1 lv → va_P g.1 xcl ws H → va_D A ws → va_S A s.heap H locs → W p l e F.2.2.2.2.1 s m args below meth c H locs nc ns (Q below args s A) (F0 m pc ls st)
def yQc (g : yG) (post : va_W → Prop) (A : Nat → Prop) : Array Value → State → Outcome → State → Prop := va_Qv post (fun u t => va_P g.1 xcl u t.heap ∧ va_D A u) A
def yMQ (g : yG) (post : va_W → Prop) (mc ms : Nat) : xQT := fun below args s A => MQ below (yQc g post A) args s mc ms A
def yPc (g : yG) (av : List Value) (ws0 : va_W) (sz : Nat) : Array Value → State → Prop := va_Pc av (fun U => U.heap.size = sz ∧ va_P g.1 xcl ws0 U.heap ∧ va_K g.1 xcl (ytys g) U ∧ yNw U ∧ va_D (fun _ => True) ws0)
/-- a constructor's contract: it makes mc cells of ms slots, and its world is then a list with post -/
def yCon (g : yG) (F : xM) (av : List Value) (ws0 : va_W) (post : va_W → Prop) (mc ms : Nat) : Prop :=
  ∀ (l : Launch) (sz : Nat), Met l F.1 (xown F) F.2.2.2.2.1 (yPc g av ws0 sz) (yQc g post (va_A ws0 sz)) mc ms (va_A ws0 sz)
section B7
variable {g : yG} {F : xM} {Q : xQT} {pc : Nat} {lv : xL} {st : List Value} {ws : va_W} {nc ns : Nat}
theorem y_ent {av : List Value} {ws0 : va_W} {post : va_W → Prop} {mc ms : Nat} (hy : plainName F.1.cls = true) (hnm : F.1.name = "<init>") (hn : (lg_sl av).length ≤ F.2.2.1) (h : yT g F (yMQ g post mc ms) 0 (xEnt av ++ List.replicate (F.2.2.1 - (xEnt av).length) none) [] ws0 0 0) : yCon g F av ws0 post mc ms := by
  intro l sz
  refine Met.ofW (cc := F.2.1) (maxL := F.2.2.1) (ret := F.2.2.2.1) (ws' := xw) hy rfl ?_
  intro p e s m args below meth c s₁ B hml hv
  obtain ⟨rfl, hsz, hP, hK, hN, hD0⟩ := hv
  have hts := atoms_spec (ws := xown F) B.pre
  have hl := lv_entry av (n := F.2.2.1) hn
  rw [lg_entry_eq]
  have hl2 : xhas ((lg_sl av ++ List.replicate (F.2.2.1 - (lg_sl av).length) Slot.unset).toArray) F.2.2.1 (xEnt av ++ List.replicate (F.2.2.1 - (xEnt av).length) none) := xhas_of hl (fun i v hiv => by
    have := xEnt_in av 0 i v (xEnt_pad av _ i v hiv)
    rwa [Nat.zero_add] at this)
  have hin : meth.name = "<init>" := ((name_of_methodNamed B.named B.method).1).trans hnm
  subst hsz
  exact h p l e s m av.toArray below meth c (va_A ws0 s.heap.size) ⟨B.exec, B.bytes, hml, findClass_of_methodNamed B.named, fun w hw => hts w (List.mem_cons_of_mem _ hw), hK, fun q h => Or.inr h, B.notSynchronized, B.returns, hN, hin⟩ s.heap [] _ hl2 hP (hD0.self (sz := s.heap.size)) va_S.rf
theorem y_ret {post : va_W → Prop} {mc ms : Nat} (hd : decode F.2.1 pc = .ok (.return_, 1)) (hr : F.2.2.2.1 = none) (hc : nc ≤ mc) (hs : ns ≤ ms) (hp : post ws) : yT g F (yMQ g post mc ms) pc lv [] ws nc ns := by
  intro p l e s m args below meth c A C H locs ls hl hP hD hS
  refine W.widen (k := mc) (n := ms) hc hs ?_
  exact W.vret C.1 C.2.1 (C.2.2.2.2.2.2.2.2.1.trans hr) (fun t ht hW => ⟨⟨ws, rfl, hp, by rw [ht]; exact hP, hD⟩, hS.F ht⟩) hS.2.2 hd C.2.2.2.2.2.2.2.1
-- plain instructions
theorem y_aload0 {x : Nat} (hd : decode F.2.1 pc = .ok (.aload_n 0, 1)) (hv : lv[0]? = some (some (.ref x))) (k : yT g F Q (pc + 1) lv (.ref x :: st) ws nc ns) : yT g F Q pc lv st ws nc ns := fun p l e s m args below meth c A C H locs ls hl hP hD hS => lv_aload_n C.1 C.2.1 hd rfl (xhas_at hl hv) (k p l e s m args below meth c A C H locs ls hl hP hD hS)
theorem y_iload1 {x : Int32} (hd : decode F.2.1 pc = .ok (.iload_n 1, 1)) (hv : lv[1]? = some (some (.int x))) (k : yT g F Q (pc + 1) lv (.int x :: st) ws nc ns) : yT g F Q pc lv st ws nc ns := fun p l e s m args below meth c A C H locs ls hl hP hD hS => lv_iload_n C.1 C.2.1 hd rfl (xhas_at hl hv) (k p l e s m args below meth c A C H locs ls hl hP hD hS)
theorem y_iload2 {x : Int32} (hd : decode F.2.1 pc = .ok (.iload_n 2, 1)) (hv : lv[2]? = some (some (.int x))) (k : yT g F Q (pc + 1) lv (.int x :: st) ws nc ns) : yT g F Q pc lv st ws nc ns := fun p l e s m args below meth c A C H locs ls hl hP hD hS => lv_iload_n C.1 C.2.1 hd rfl (xhas_at hl hv) (k p l e s m args below meth c A C H locs ls hl hP hD hS)
theorem y_ic {n : Int} {v : Int32} (hv : Int32.ofInt n = v) (hd : decode F.2.1 pc = .ok (.iconst n, 1)) (k : yT g F Q (pc + 1) lv (.int v :: st) ws nc ns) : yT g F Q pc lv st ws nc ns := fun p l e s m args below meth c A C H locs ls hl hP hD hS => lv_iconst (v := v) C.1 C.2.1 hd hv (k p l e s m args below meth c A C H locs ls hl hP hD hS)
theorem y_lc0 (hd : decode F.2.1 pc = .ok (.lconst 0, 1)) (k : yT g F Q (pc + 1) lv (.long 0 :: st) ws nc ns) : yT g F Q pc lv st ws nc ns := fun p l e s m args below meth c A C H locs ls hl hP hD hS => lv_lconst (v := 0) C.1 C.2.1 hd (by decide) (k p l e s m args below meth c A C H locs ls hl hP hD hS)
theorem y_bip {n : Int} {v : Int32} (hv : (Int8.ofInt n).toInt32 = v) (hd : decode F.2.1 pc = .ok (.bipush n, 2)) (k : yT g F Q (pc + 2) lv (.int v :: st) ws nc ns) : yT g F Q pc lv st ws nc ns := fun p l e s m args below meth c A C H locs ls hl hP hD hS => lv_bipush C.1 C.2.1 hd hv (k p l e s m args below meth c A C H locs ls hl hP hD hS)
theorem y_sip {n : Int} {v : Int32} (hv : (Int16.ofInt n).toInt32 = v) (hd : decode F.2.1 pc = .ok (.sipush n, 3)) (k : yT g F Q (pc + 3) lv (.int v :: st) ws nc ns) : yT g F Q pc lv st ws nc ns := fun p l e s m args below meth c A C H locs ls hl hP hD hS => lv_sipush C.1 C.2.1 hd hv (k p l e s m args below meth c A C H locs ls hl hP hD hS)
theorem y_dup {x : Nat} (hd : decode F.2.1 pc = .ok (.dup, 1)) (k : yT g F Q (pc + 1) lv (.ref x :: .ref x :: st) ws nc ns) : yT g F Q pc lv (.ref x :: st) ws nc ns := fun p l e s m args below meth c A C H locs ls hl hP hD hS => lv_dup C.1 C.2.1 hd rfl (k p l e s m args below meth c A C H locs ls hl hP hD hS)
theorem y_istore1 {x : Int32} {lv' : xL} (hd : decode F.2.1 pc = .ok (.istore_n 1, 1)) (hn : 1 < F.2.2.1) (he : xst1 lv 1 (.int x) = lv') (k : yT g F Q (pc + 1) lv' st ws nc ns) : yT g F Q pc lv (.int x :: st) ws nc ns := fun p l e s m args below meth c A C H locs ls hl hP hD hS => lv_istore_n (i := 1) C.1 C.2.1 hd rfl hl hn rfl (fun ls2 h2 => k p l e s m args below meth c A C H locs ls2 (he ▸ xhas_of h2 (fun q v h => xst1_in q v h)) hP hD hS)
theorem y_goto {off : Int} (tgt : Nat) (hd : decode F.2.1 pc = .ok (.goto off, 3)) (ht : (pc : Int) + off = (tgt : Int)) (k : yT g F Q tgt lv st ws nc ns) : yT g F Q pc lv st ws nc ns := fun p l e s m args below meth c A C H locs ls hl hP hD hS => lv_goto C.1 C.2.1 hd ht (k p l e s m args below meth c A C H locs ls hl hP hD hS)
theorem y_icmp_ge {x y : Int32} {off : Int} (tgt : Nat) (hd : decode F.2.1 pc = .ok (.if_icmp .ge off, 3)) (ht : (pc : Int) + off = (tgt : Int)) (kt : y ≤ x → yT g F Q tgt lv st ws nc ns) (kf : ¬ y ≤ x → yT g F Q (pc + 3) lv st ws nc ns) : yT g F Q pc lv (.int y :: .int x :: st) ws nc ns := fun p l e s m args below meth c A C H locs ls hl hP hD hS => lv_icmp_ge C.1 C.2.1 hd ht (fun h => kt h p l e s m args below meth c A C H locs ls hl hP hD hS) (fun h => kf h p l e s m args below meth c A C H locs ls hl hP hD hS)
theorem y_iinc {i : Nat} {n : Int} {x v : Int32} {lv' : xL} (hd : decode F.2.1 pc = .ok (.iinc i n, 3)) (hv : lv[i]? = some (some (.int x))) (he : x + Int32.ofInt n = v) (hn : i < F.2.2.1) (hl' : xst1 lv i (.int v) = lv') (k : yT g F Q (pc + 3) lv' st ws nc ns) : yT g F Q pc lv st ws nc ns := by
  intro p l e s m args below meth c A C H locs ls hl hP hD hS
  obtain ⟨k0, hk0⟩ := List.getElem?_of_mem ((xal_mem lv 0 (i, .int x)).mpr ⟨Nat.zero_le _, hv⟩)
  exact lv_iinc (v := v) C.1 C.2.1 hd hl (k := k0) hk0 he hn rfl (fun ls2 h2 => k p l e s m args below meth c A C H locs ls2 (hl' ▸ xhas_of h2 (fun q w h => xst1_in q w h)) hP hD hS)
-- Object's own constructor
def yob (F : xM) (ix : Nat) : Prop := Cond.methodLink F.1.cls ix Lib.objectInit ∈ xw ∧ 1 ≤ F.2.2.2.2.1.frames ∧ 12 ≤ F.2.2.2.2.1.locals
theorem yw_oi : Cond.instanceMethod Lib.objectInit ∈ xw := xt 20 (by decide +kernel) rfl
theorem yw_oc : Cond.code Lib.objectInit ⟨#[0xb1]⟩ 1 none ∈ xw := xt 21 (by decide +kernel) rfl
theorem y_obj {ix a : Nat} (hd : decode F.2.1 pc = .ok (.invokespecial ix, 3)) (h : yob F ix) (k : yT g F Q (pc + 3) lv [] ws nc ns) : yT g F Q pc lv [.ref a] ws nc ns := by
  intro p l e s m args below meth c A C H locs ls hl hP hD hS
  have hts := C.2.2.2.2.1
  refine W.objInit C.1 C.2.1 C.2.2.2.1 (hts _ h.1) (hts _ yw_oi) (hts _ yw_oc) rfl (by rw [C.2.2.1]; exact hl.1) rfl hd h.2.1 ?_ ?_
  · exact h.2.2
  · exact k p l e s m args below meth c A C H locs ls hl hP hD hS
-- cells that are made
abbrev yI (g : yG) (q n : Nat) : Nat × va_E := (q, .inl (g.2 0, n, .inl (fun _ => 0)))
abbrev yJ (g : yG) (q n : Nat) : Nat × va_E := (q, .inl (g.2 1, n, .inr (.inl (fun _ => 0))))
abbrev yZ (g : yG) (q n : Nat) : Nat × va_E := (q, .inl (g.2 2, n, .inl (fun _ => 0)))
abbrev yO (q ci : Nat) (fs : List Value) : Nat × va_E := (q, .inr (ci, fs))
abbrev yR (g : yG) (t q n : Nat) (f : Nat → Option Nat) : Nat × va_E := (q, .inl (g.2 t, n, .inr (.inr (.inr (.inr f)))))
theorem yw_aI : Cond.arrayClass .int ∈ xw := xt 44 (by decide +kernel) rfl
theorem yw_aJ : Cond.arrayClass .long ∈ xw := xt 168 (by decide +kernel) rfl
theorem yw_aZ : Cond.arrayClass .boolean ∈ xw := xt 974 (by decide +kernel) rfl
theorem y_newI {n : Int32} {N : Nat} {ws' : Nat → va_W} (hd : decode F.2.1 pc = .ok (.newarray .int, 2)) (hn : ¬ n < 0) (hN : n.toNatClampNeg = N) (hby : N * componentBytes .int ≤ 536870912) (hc : nc + 1 ≤ F.2.2.2.2.1.cells) (hs : ns + N ≤ F.2.2.2.2.1.slots) (hw : ∀ q, ws ++ [yI g q N] = ws' q) (kk : ∀ q, yT g F Q (pc + 2) lv (.ref q :: st) (ws' q) (nc + 1) (ns + N)) : yT g F Q pc lv (.int n :: st) ws nc ns := by
  intro p l e s m args below meth c A C H locs ls hl hP hD hS
  have hK := C.2.2.2.2.2.1
  refine va_newa (atype := .int) C.1 C.2.1 (C.2.2.2.2.1 _ yw_aI) (ty := .int) rfl hK hP hD hS C.2.2.2.2.2.2.1 (a0 := (N, .inl (fun _ => 0))) (fun _ => rfl) hn hN hby hc hs hd (fun q cA H1 hK1 hP1 hD1 hS1 => ?_)
  have e0 : s.vm.findClass _ = some (g.2 0) := (hK.2 0 _ rfl).2
  have e1 : s.vm.findClass _ = some cA := (hK1.2 5 _ rfl).2
  have : cA = g.2 0 := Option.some.inj (e1.symm.trans e0)
  subst this
  exact kk q p l e s m args below meth c A C H1 locs ls hl (hw q ▸ hP1) (hw q ▸ hD1) hS1
theorem y_newJ {n : Int32} {N : Nat} {ws' : Nat → va_W} (hd : decode F.2.1 pc = .ok (.newarray .long, 2)) (hn : ¬ n < 0) (hN : n.toNatClampNeg = N) (hby : N * componentBytes .long ≤ 536870912) (hc : nc + 1 ≤ F.2.2.2.2.1.cells) (hs : ns + N ≤ F.2.2.2.2.1.slots) (hw : ∀ q, ws ++ [yJ g q N] = ws' q) (kk : ∀ q, yT g F Q (pc + 2) lv (.ref q :: st) (ws' q) (nc + 1) (ns + N)) : yT g F Q pc lv (.int n :: st) ws nc ns := by
  intro p l e s m args below meth c A C H locs ls hl hP hD hS
  have hK := C.2.2.2.2.2.1
  refine va_newa (atype := .long) C.1 C.2.1 (C.2.2.2.2.1 _ yw_aJ) (ty := .long) rfl hK hP hD hS C.2.2.2.2.2.2.1 (a0 := (N, .inr (.inl (fun _ => 0)))) (fun _ => rfl) hn hN hby hc hs hd (fun q cA H1 hK1 hP1 hD1 hS1 => ?_)
  have e0 : s.vm.findClass _ = some (g.2 1) := (hK.2 1 _ rfl).2
  have e1 : s.vm.findClass _ = some cA := (hK1.2 5 _ rfl).2
  have : cA = g.2 1 := Option.some.inj (e1.symm.trans e0)
  subst this
  exact kk q p l e s m args below meth c A C H1 locs ls hl (hw q ▸ hP1) (hw q ▸ hD1) hS1
theorem y_newZ {n : Int32} {N : Nat} {ws' : Nat → va_W} (hd : decode F.2.1 pc = .ok (.newarray .boolean, 2)) (hn : ¬ n < 0) (hN : n.toNatClampNeg = N) (hby : N * componentBytes .boolean ≤ 536870912) (hc : nc + 1 ≤ F.2.2.2.2.1.cells) (hs : ns + N ≤ F.2.2.2.2.1.slots) (hw : ∀ q, ws ++ [yZ g q N] = ws' q) (kk : ∀ q, yT g F Q (pc + 2) lv (.ref q :: st) (ws' q) (nc + 1) (ns + N)) : yT g F Q pc lv (.int n :: st) ws nc ns := by
  intro p l e s m args below meth c A C H locs ls hl hP hD hS
  have hK := C.2.2.2.2.2.1
  refine va_newa (atype := .boolean) C.1 C.2.1 (C.2.2.2.2.1 _ yw_aZ) (ty := .boolean) rfl hK hP hD hS C.2.2.2.2.2.2.1 (a0 := (N, .inl (fun _ => 0))) (fun _ => rfl) hn hN hby hc hs hd (fun q cA H1 hK1 hP1 hD1 hS1 => ?_)
  have e0 : s.vm.findClass _ = some (g.2 2) := (hK.2 2 _ rfl).2
  have e1 : s.vm.findClass _ = some cA := (hK1.2 5 _ rfl).2
  have : cA = g.2 2 := Option.some.inj (e1.symm.trans e0)
  subst this
  exact kk q p l e s m args below meth c A C H1 locs ls hl (hw q ▸ hP1) (hw q ▸ hD1) hS1
theorem y_newR {n : Int32} {N ix t : Nat} {C0 : String} {ws' : Nat → va_W} (hd : decode F.2.1 pc = .ok (.anewarray ix, 3)) (hcl : Cond.classLink F.1.cls ix C0 ∈ xw) (ha : ∀ U, yNw U → va_AO C0 U) (ht : (ytys g)[t]? = some (g.2 t, .object C0)) (hn : ¬ n < 0) (hN : n.toNatClampNeg = N) (hby : N * 4 ≤ 536870912) (hc : nc + 1 ≤ F.2.2.2.2.1.cells) (hs : ns + N ≤ F.2.2.2.2.1.slots) (hw : ∀ q, ws ++ [yR g t q N (fun _ => none)] = ws' q) (kk : ∀ q, yT g F Q (pc + 3) lv (.ref q :: st) (ws' q) (nc + 1) (ns + N)) : yT g F Q pc lv (.int n :: st) ws nc ns := by
  intro p l e s m args below meth c A C H locs ls hl hP hD hS
  have hK := C.2.2.2.2.2.1
  refine va_newq C.1 C.2.1 C.2.2.2.1 (C.2.2.2.2.1 _ hcl) (ha s C.2.2.2.2.2.2.2.2.2.1) hK hP hD hS C.2.2.2.2.2.2.1 hn hN hby hc hs hd (fun q cA H1 hK1 hP1 hD1 hS1 => ?_)
  obtain ⟨-, -, -, -, -, e0⟩ := (hK.2 t _ ht).2
  obtain ⟨-, -, -, -, -, e1⟩ := (hK1.2 5 _ rfl).2
  have : cA = g.2 t := Option.some.inj (e1.symm.trans e0)
  subst this
  exact kk q p l e s m args below meth c A C H1 locs ls hl (hw q ▸ hP1) (hw q ▸ hD1) hS1
theorem y_new {ci ix N : Nat} {C0 : String} {T : u_T} {fs : List Value} {ws' : Nat → va_W} (hd : decode F.2.1 pc = .ok (.new ix, 3)) (hq : xcl[ci]? = some (C0, T, N)) (ty : Nat → FieldType) (hty : ∀ k, k < N → parseFieldDescriptor (T k).2.2.1 = some (ty k)) (hcl : Cond.classLink F.1.cls ix C0 ∈ xw) (hin : Cond.instantiable C0 N ∈ xw) (hini : Cond.initialized C0 ∈ xw) (hfs : ∀ j, j < N → defaultValue (ty j) = vp_V fs j) (hc : nc + 1 ≤ F.2.2.2.2.1.cells) (hs : ns + N ≤ F.2.2.2.2.1.slots) (hw : ∀ q, ws ++ [yO q ci fs] = ws' q) (kk : ∀ q, yT g F Q (pc + 3) lv (.ref q :: st) (ws' q) (nc + 1) (ns + N)) : yT g F Q pc lv st ws nc ns := by
  intro p l e s m args below meth c A C H locs ls hl hP hD hS
  have hts := C.2.2.2.2.1
  refine va_new C.1 C.2.1 hts (xcls ci _ hq).1 ty hty C.2.2.2.1 (hts _ hcl) (hts _ hin) (hts _ hini) C.2.2.2.2.2.1 hP hD hS C.2.2.2.2.2.2.1 hq hfs hc hs hd (fun q H1 hP1 hD1 hS1 => ?_)
  exact kk q p l e s m args below meth c A C H1 locs ls hl (hw q ▸ hP1) (hw q ▸ hD1) hS1
-- fields
theorem y_putF {ci ix j a : Nat} {v : Value} {q : vw_C} {fs : List Value} {ty : FieldType} {ws' : va_W} (hd : decode F.2.1 pc = .ok (.putfield ix, 3)) (hw : xlk F.1.cls ix ci j) (hq : xcl[ci]? = some q) (hfin : (q.2.1 j).2.2.2 = true) (hdc : (q.2.1 j).1 = F.1.cls) (hpd : parseFieldDescriptor (q.2.1 j).2.2.1 = some ty) (hna : narrow ty v = v) (hfi : fits ty v = true) (q0 : Nat) (he : ws[q0]? = some (yO a ci fs)) (hl : j < fs.length) (hws : ws.set q0 (yO a ci (fs.set j v)) = ws') (kk : yT g F Q (pc + 3) lv st ws' nc ns) : yT g F Q pc lv (v :: .ref a :: st) ws nc ns := by
  intro p l e s m args below meth c A C H locs ls hl2 hP hD hS
  obtain ⟨q', hc, hjn, hlink⟩ := hw
  have : q' = q := Option.some.inj (hc.symm.trans hq)
  subst this
  obtain ⟨hin, ty0, hty, hnm⟩ := xcls ci q' hc
  subst hws
  exact va_putF (D := g.1) (ci := ci) (C := q'.1) (T := q'.2.1) (N := q'.2.2) C.1 C.2.1 C.2.2.2.2.1 hin ty0 hty hnm C.2.2.2.1 C.2.2.2.2.2.1 hP hD hS q0 he hc j hjn (C.2.2.2.2.1 _ hlink) (fun _ h => h) hfin C.2.2.2.2.2.2.2.2.2.2 hdc hpd hna hfi hl hd (fun H1 locs1 hP1 hD1 hS1 => kk p l e s m args below meth c A C H1 locs1 ls hl2 hP1 hD1 hS1)
theorem y_put {ci ix j a : Nat} {v : Value} {fs : List Value} {ty : FieldType} {ws' : va_W} (hd : decode F.2.1 pc = .ok (.putfield ix, 3)) (hw : xlp F.1.cls ix ci j ty) (hna : narrow ty v = v) (hfi : fits ty v = true) (q0 : Nat) (he : ws[q0]? = some (yO a ci fs)) (hl : j < fs.length) (hws : ws.set q0 (yO a ci (fs.set j v)) = ws') (kk : yT g F Q (pc + 3) lv st ws' nc ns) : yT g F Q pc lv (v :: .ref a :: st) ws nc ns := by
  intro p l e s m args below meth c A C H locs ls hl2 hP hD hS
  obtain ⟨q', hc, hjn, hlink, hfin, hpd⟩ := hw
  obtain ⟨hin, ty0, hty, hnm⟩ := xcls ci q' hc
  subst hws
  exact va_put (D := g.1) (ci := ci) (C := q'.1) (T := q'.2.1) (N := q'.2.2) C.1 C.2.1 C.2.2.2.2.1 hin ty0 hty hnm C.2.2.2.1 C.2.2.2.2.2.1 hP hD hS q0 he hc j hjn (C.2.2.2.2.1 _ hlink) (fun _ h => h) hfin hpd hna hfi hl hd (fun H1 locs1 hP1 hD1 hS1 => kk p l e s m args below meth c A C H1 locs1 ls hl2 hP1 hD1 hS1)
theorem y_get {ci ix j a : Nat} {v : Value} {fs : List Value} (hd : decode F.2.1 pc = .ok (.getfield ix, 3)) (hw : xlk F.1.cls ix ci j) (q0 : Nat) (he : ws[q0]? = some (yO a ci fs)) (hv : fs[j]? = some v) (kk : yT g F Q (pc + 3) lv (v :: st) ws nc ns) : yT g F Q pc lv (.ref a :: st) ws nc ns := by
  intro p l e s m args below meth c A C H locs ls hl2 hP hD hS
  obtain ⟨q', hc, hjn, hlink⟩ := hw
  exact va_get (D := g.1) (ci := ci) (C := q'.1) (T := q'.2.1) (N := q'.2.2) C.1 C.2.1 C.2.2.2.2.1 (xcls ci q' hc).1 C.2.2.2.1 C.2.2.2.2.2.1 hP q0 he hc j hjn (C.2.2.2.2.1 _ hlink) (fun _ h => h) hv hd (kk p l e s m args below meth c A C H locs ls hl2 hP hD hS)
-- arrays
theorem y_aast {i : Int32} {a v n t ci j : Nat} {r : vw_C} {vs : List Value} {f : Nat → Option Nat} {ws' : va_W} (q0 qk : Nat) (hd : decode F.2.1 pc = .ok (.aastore, 1)) (ha : ws[q0]? = some (yR g t a n f)) (ht : (ytys g)[t]? = some (g.2 t, .object r.1)) (hv : ws[qk]? = some (yO v ci vs)) (hc : xcl[ci]? = some r) (hin : vp_in i n) (hj : i.toNatClampNeg = j) (hws : ws.set q0 (yR g t a n (va_up f j (some v))) = ws') (kk : yT g F Q (pc + 1) lv st ws' nc ns) : yT g F Q pc lv (.ref v :: .int i :: .ref a :: st) ws nc ns := by
  intro p l e s m args below meth c A C H locs ls hl2 hP hD hS
  subst hj
  subst hws
  exact va_astq C.1 C.2.1 C.2.2.2.2.2.1 hP hD hS q0 t qk ci ha ht hv hc hin hd (fun H1 locs1 hP1 hD1 hS1 => kk p l e s m args below meth c A C H1 locs1 ls hl2 hP1 hD1 hS1)
theorem y_iast {i x : Int32} {a n j : Nat} {f : Nat → Int32} {ws' : va_W} (q0 : Nat) (hd : decode F.2.1 pc = .ok (.iastore, 1)) (ha : ws[q0]? = some (a, .inl (g.2 0, n, .inl f))) (hin : vp_in i n) (hj : i.toNatClampNeg = j) (hws : ws.set q0 (a, .inl (g.2 0, n, .inl (upd f j x))) = ws') (kk : yT g F Q (pc + 1) lv st ws' nc ns) : yT g F Q pc lv (.int x :: .int i :: .ref a :: st) ws nc ns := by
  intro p l e s m args below meth c A C H locs ls hl2 hP hD hS
  subst hj
  subst hws
  exact va_iast C.1 C.2.1 C.2.2.2.2.2.1 hP hD hS q0 0 ha rfl hin hd (fun H1 locs1 hP1 hD1 hS1 => kk p l e s m args below meth c A C H1 locs1 ls hl2 hP1 hD1 hS1)
-- calls of constructors: of the cell that was made last
theorem y_join {A0 : Nat → Prop} {D : va_G} {cl : List vw_C} {wr w1 : va_W} {q : Nat} {e : va_E} {H H1 : Heap} (hP : va_P D cl (wr ++ [(q, e)]) H) (hD : va_D A0 (wr ++ [(q, e)])) (hk : ∀ x : Nat, x < H.size → ¬ va_A [(q, e)] H.size x → H1[x]? = H[x]?) (hF : ∀ x, va_A [(q, e)] H.size x → A0 x) (hP1 : va_P D cl w1 H1) (hD1 : va_D (va_A [(q, e)] H.size) w1) : va_P D cl (wr ++ w1) H1 ∧ va_D A0 (wr ++ w1) := by
  have at1 : ∀ (k : Nat) (x : Nat × va_E), wr[k]? = some x → (wr ++ [(q, e)])[k]? = some x := fun k x h => by
    rw [List.getElem?_append_left (List.getElem?_eq_some_iff.mp h).1]; exact h
  have last : (wr ++ [(q, e)])[wr.length]? = some (q, e) := by
    rw [List.getElem?_append_right (Nat.le_refl _), Nat.sub_self]; rfl
  have apart : ∀ (k : Nat) (x : Nat × va_E), wr[k]? = some x → x.1 < H.size ∧ ¬ va_A [(q, e)] H.size x.1 := by
    intro k x hx
    have hl := (hP k x (at1 k x hx)).lt
    refine ⟨hl, fun h => ?_⟩
    rcases h with ⟨k2, e2, h⟩ | h
    · have hz : k2 < 1 := (List.getElem?_eq_some_iff.mp h).1
      rw [show k2 = 0 by omega] at h
      have hq : q = x.1 := congrArg Prod.fst (Option.some.inj h)
      have hkl := hD.1 k wr.length x (q, e) (at1 k x hx) last hq.symm
      have := (List.getElem?_eq_some_iff.mp hx).1
      omega
    · omega
  exact ⟨va_P.app (fun k x hx => (hP k x (at1 k x hx)).kept (hk x.1 (apart k x hx).1 (apart k x hx).2)) hP1, va_D.app ⟨fun i j x y hx hy h => hD.1 i j x y (at1 i x hx) (at1 j y hy) h, fun k x hx => hD.2 k x (at1 k x hx)⟩ (hD1.weaken (fun k x _ h => hF x.1 h)) (fun i j x y hx hy hxy => (apart i x hx).2 (by rw [hxy]; exact hD1.2 j y hy))⟩
theorem yPc_blind {av : List Value} {ws0 : va_W} {sz : Nat} : FrameBlind (yPc g av ws0 sz) := fun a U f mk q => by
  obtain ⟨q0, q1, qP, qK, qN, qD⟩ := q
  exact ⟨q0, q1, qP, va_K.moved (u := U) (U := U.calling f mk a) (Vm.Alike.refl U.vm) qK, qN.blind, qD⟩
/-- what a call of a constructor needs of the tables -/
def ycf (F' : xM) (n : Nat) : Prop := Cond.code F'.1 F'.2.1 F'.2.2.1 none ∈ xw ∧ Cond.initialized F'.1.cls ∈ xw ∧ Cond.instanceMethod F'.1 ∈ xw ∧ (F'.1.cls ≠ "java/lang/invoke/MethodHandle" ∧ F'.1.cls ≠ "java/lang/invoke/VarHandle" ∧ (parseMethodDescriptor F'.1.desc).map (fun d => d.parameters.length) = some n) ∧ F'.1.name = "<init>" ∧ F'.2.2.2.1 = none
theorem ycf.own {F' : xM} {n : Nat} (h : ycf F' n) : xown F' = .code F'.1 F'.2.1 F'.2.2.1 none :: xw := by
  show _ :: _ = _
  rw [h.2.2.2.2.2]
theorem ycf.good {F' : xM} {n : Nat} (h : ycf F' n) : GoodIn xw (.code F'.1 F'.2.1 F'.2.2.1 none :: xw) := fun w hw => by
  rcases List.mem_cons.mp hw with e | h1
  · subst e
    exact ⟨h.1, good_of_word (xw_good h.1)⟩
  · exact ⟨h1, good_of_word (xw_good h1)⟩
abbrev yrm (F F' : xM) : Prop := F'.2.2.2.2.1.frames + 1 ≤ F.2.2.2.2.1.frames ∧ 8 + (F'.2.2.1 + 11) + F'.2.2.2.2.1.locals ≤ F.2.2.2.2.1.locals
theorem y_callN {F' : xM} {ix n q mc ms : Nat} {e : va_E} {wr : va_W} {As st0 : List Value} {post : va_W → Prop} (hd : decode F.2.1 pc = .ok (.invokespecial ix, 3)) (hf : ycf F' n) (hln : (F.1.cls, ix, F'.1) ∈ yns) (hR : yrm F F') (hmc : F'.2.2.2.2.1.cells = mc) (hms : F'.2.2.2.2.1.slots = ms) (hn : As.length = n) (hst : st0 = As.reverse ++ .ref q :: st) (hrm : (st.map fun v => v.category).sum ≤ 8) (hws : ws = wr ++ [(q, e)]) (hc : yCon g F' (.ref q :: As) [(q, e)] post mc ms) (hcs : nc + mc ≤ F.2.2.2.2.1.cells ∧ ns + ms ≤ F.2.2.2.2.1.slots) (kk : ∀ w1, post w1 → yT g F Q (pc + 3) lv st (wr ++ w1) (nc + mc) (ns + ms)) : yT g F Q pc lv st0 ws nc ns := by
  intro p l e0 s m args below meth c A C H locs ls hl hP hD hS
  subst hws
  have hts := C.2.2.2.2.1
  have last : (wr ++ [(q, e)])[wr.length]? = some (q, e) := by
    rw [List.getElem?_append_right (Nat.le_refl _), Nat.sub_self]; rfl
  have hPc : va_P g.1 xcl [(q, e)] H := hP.sub [wr.length] (by simp)
  have hDc : va_D (fun _ => True) [(q, e)] := ⟨fun i j x y hx hy _ => by
    have h1 : i < 1 := (List.getElem?_eq_some_iff.mp hx).1
    have h2 : j < 1 := (List.getElem?_eq_some_iff.mp hy).1
    omega, fun _ _ _ => trivial⟩
  have hFc : ∀ x, va_A [(q, e)] H.size x → A x := va_free hD hS C.2.2.2.2.2.2.1 [wr.length] (by simp)
  have hM := hc l H.size
  rw [hf.own] at hM
  refine va_callv (va_runIN (nL := F.2.2.1) (cc := F.2.1) (own := F.1.cls) (Ts := xw) (As := As) (rest := st) (bytes := F'.2.1) (maxL := F'.2.2.1) (index := ix) (host := RX8) ⟨C.1, C.2.1, C.2.2.1, C.2.2.2.1, hts⟩ hM ⟨va_cnB n hts hf.good rfl hmc hms (C.2.2.2.2.2.2.2.2.2.1.1 _ hln) (hts _ hf.2.1) hf.2.2.2.1 hR, hf.2.2.2.2.1, hts _ hf.2.2.1⟩ ⟨yPc_blind, fun U hU hW => ⟨rfl, by rw [hU], by rw [hU]; exact hPc, va_K.moved hW.alike C.2.2.2.2.2.1, C.2.2.2.2.2.2.2.2.2.1.warm hW, hDc⟩⟩ rfl hn hl.1 hst (lv_room hrm) hd hcs) hS (fun x _ h => hFc x h) hFc (fun u t H1 locs1 ht hvm hw hB hz1 hk1 hS1 => ?_)
  obtain ⟨hP1, hD1⟩ := hB
  rw [ht] at hP1
  obtain ⟨hP2, hD2⟩ := y_join hP hD hk1 hFc hP1 hD1
  exact kk u hw p l e0 s m args below meth c A C H1 locs1 ls hl hP2 hD2 hS1
theorem y_callI {F' : xM} {ix n q mc ms : Nat} {e : va_E} {wr : va_W} {As st0 : List Value} {post : va_W → Prop} (hd : decode F.2.1 pc = .ok (.invokespecial ix, 3)) (hf : ycf F' n) (hln : Cond.methodLink F.1.cls ix F'.1 ∈ xw) (hR : yrm F F') (hmc : F'.2.2.2.2.1.cells = mc) (hms : F'.2.2.2.2.1.slots = ms) (hn : As.length = n) (hst : st0 = As.reverse ++ .ref q :: st) (hrm : (st.map fun v => v.category).sum ≤ 8) (hws : ws = wr ++ [(q, e)]) (hc : yCon g F' (.ref q :: As) [(q, e)] post mc ms) (hcs : nc + mc ≤ F.2.2.2.2.1.cells ∧ ns + ms ≤ F.2.2.2.2.1.slots) (kk : ∀ w1, post w1 → yT g F Q (pc + 3) lv st (wr ++ w1) (nc + mc) (ns + ms)) : yT g F Q pc lv st0 ws nc ns := by
  intro p l e0 s m args below meth c A C H locs ls hl hP hD hS
  subst hws
  have hts := C.2.2.2.2.1
  have hPc : va_P g.1 xcl [(q, e)] H := hP.sub [wr.length] (by simp)
  have hDc : va_D (fun _ => True) [(q, e)] := ⟨fun i j x y hx hy _ => by
    have h1 : i < 1 := (List.getElem?_eq_some_iff.mp hx).1
    have h2 : j < 1 := (List.getElem?_eq_some_iff.mp hy).1
    omega, fun _ _ _ => trivial⟩
  have hFc : ∀ x, va_A [(q, e)] H.size x → A x := va_free hD hS C.2.2.2.2.2.2.1 [wr.length] (by simp)
  have hM := hc l H.size
  rw [hf.own] at hM
  refine va_callv (va_runI (nL := F.2.2.1) (cc := F.2.1) (own := F.1.cls) (Ts := xw) (As := As) (rest := st) (bytes := F'.2.1) (maxL := F'.2.2.1) (index := ix) ⟨C.1, C.2.1, C.2.2.1, C.2.2.2.1, hts⟩ hM ⟨callB_of n hts hf.good rfl hmc hms (hts _ hf.2.1) (hts _ hln) hf.2.2.2.1 hR, hf.2.2.2.2.1, hts _ hf.2.2.1⟩ ⟨yPc_blind, fun U hU hW => ⟨rfl, by rw [hU], by rw [hU]; exact hPc, va_K.moved hW.alike C.2.2.2.2.2.1, C.2.2.2.2.2.2.2.2.2.1.warm hW, hDc⟩⟩ rfl hn hl.1 hst (lv_room hrm) hd hcs) hS (fun x _ h => hFc x h) hFc (fun u t H1 locs1 ht hvm hw hB hz1 hk1 hS1 => ?_)
  obtain ⟨hP1, hD1⟩ := hB
  rw [ht] at hP1
  obtain ⟨hP2, hD2⟩ := y_join hP hD hk1 hFc hP1 hD1
  exact kk u hw p l e0 s m args below meth c A C H1 locs1 ls hl hP2 hD2 hS1
end B7
