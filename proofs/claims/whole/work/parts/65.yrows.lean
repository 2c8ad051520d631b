/-! CONSTRUCTORS. The machine in a constructor, over an explicit list of cells; what it makes is counted. -/
theorem ac_int : Cond.arrayClass .int ∈ x_good := by decide +kernel
theorem ac_bool : Cond.arrayClass .boolean ∈ x_good := by decide +kernel
def yNw (s : State) : Prop := va_Nw (.methodLinkNest RX5 26 yX0_init "GraveRows") s ∧ va_Nw (.methodLinkNest RX0 35 yX3_init "GraveRows") s ∧ va_Nw (.methodLinkNest RX0 42 yX4_init "GraveRows") s ∧ va_Nw (.methodLinkNest RX3 3 yX1_init "GraveRows") s ∧ va_Nw (.methodLinkNest RX4 3 yX1_init "GraveRows") s ∧ va_AO "GraveRows$Dig" s ∧ xNw s
theorem yNw.warm {s U : State} (hW : s.WarmedH U.vm) (h : yNw s) : yNw U := ⟨va_Nw.warmM hW h.1, va_Nw.warmM hW h.2.1, va_Nw.warmM hW h.2.2.1, va_Nw.warmM hW h.2.2.2.1, va_Nw.warmM hW h.2.2.2.2.1, va_AO.moved hW.alike h.2.2.2.2.2.1, h.2.2.2.2.2.2.warm hW⟩
theorem yNw.same {u U : State} (e : u.vm = U.vm) (h : yNw u) : yNw U := ⟨va_Nw.same rfl e h.1, va_Nw.same rfl e h.2.1, va_Nw.same rfl e h.2.2.1, va_Nw.same rfl e h.2.2.2.1, va_Nw.same rfl e h.2.2.2.2.1, va_AO.moved (e ▸ Vm.Alike.refl u.vm) h.2.2.2.2.2.1, h.2.2.2.2.2.2.same e⟩
abbrev yT : Type := List (ClassId × FieldType)
def yB (D : va_G) (P : va_W → yT → Prop) (A : Nat → Prop) (t : State) : Prop := ∃ (w : va_W) (tys : yT), P w tys ∧ va_P D vwCl w t.heap ∧ va_K D vwCl tys t ∧ va_D A w
def yC (D : va_G) (tys : yT) (μ : xM) (A : Nat → Prop) (p : Program) (s : State) (m : MethodId) (args : Array Value) (meth : Method) (c : Code) : Prop :=
  p.tables.exec = Jvm.exec ∧ c.code = μ.2.1 ∧ meth.sig.returnType = μ.2.2.2 ∧ c.maxLocals = μ.2.2.1 ∧ s.vm.findClass μ.1 = some m.cls ∧ (∀ w ∈ x_good, w.before args s = true) ∧ meth.locks = false ∧ va_K D vwCl tys s ∧ yNw s ∧ (∀ q : Nat, s.heap.size ≤ q → A q) ∧ meth.name = "<init>"
def Yx (D : va_G) (tys : yT) (μ : xM) (R : Room) (P : va_W → yT → Prop) (pc : Nat) (lv : List (Nat × Value)) (st : List Value) (ws : va_W) (k n : Nat) : Prop :=
  ∀ (l : Launch) (A : Nat → Prop) (p : Program) (e : Env) (s : State) (m : MethodId) (args : Array Value) (below : List Frame) (meth : Method) (c : Code) (H : Heap) (locs : List Loc) (la : Array Slot),
    yC D tys μ A p s m args meth c → va_P D vwCl ws H → va_D A ws → va_S A s.heap H locs → lv_has la μ.2.2.1 lv →
    W p l e R s m args below meth c H locs k n (MQ below (va_Qv (fun _ : Unit => True) (fun _ t => yB D P A t) A) args s R.cells R.slots A) (F0 m pc la st)
def Cy (D : va_G) (y : MethodName) (μ : xM) (R : Room) (av : List Value) (tys : yT) (ws0 : va_W) (P : va_W → yT → Prop) : Prop :=
  ∀ (l : Launch) (sz : Nat), Met l y (Cond.code y μ.2.1 μ.2.2.1 μ.2.2.2 :: x_good) R (va_Pc av (fun U => U.heap.size = sz ∧ va_P D vwCl ws0 U.heap ∧ va_K D vwCl tys U ∧ yNw U ∧ va_D (fun _ => True) ws0)) (va_Qv (fun _ : Unit => True) (fun _ t => yB D P (va_A ws0 sz) t) (va_A ws0 sz)) R.cells R.slots (va_A ws0 sz)
theorem Cy.of {D : va_G} {y : MethodName} {μ : xM} {R : Room} {av : List Value} {tys : yT} {ws0 : va_W} {P : va_W → yT → Prop} (hy : plainName y.cls = true) (hμ : μ.1 = y.cls) (hi : y.name = "<init>") (hn : (lg_sl av).length ≤ μ.2.2.1) (h : Yx D tys μ R P 0 (lv_args 0 av) [] ws0 0 0) : Cy D y μ R av tys ws0 P := by
  intro l sz
  refine Met.ofW (cc := μ.2.1) (maxL := μ.2.2.1) (ret := μ.2.2.2) hy rfl ?_
  intro p e s m args below meth c s₁ B hml hv
  obtain ⟨rfl, hsz, hP, hK, hN, hD0⟩ := hv
  have hts : ∀ w ∈ x_good, w.before av.toArray s = true := fun w hw => atoms_spec (ws := Cond.code y μ.2.1 μ.2.2.1 μ.2.2.2 :: x_good) B.pre w (List.mem_cons_of_mem _ hw)
  have hown : s.vm.findClass μ.1 = some m.cls := by rw [hμ]; exact findClass_of_methodNamed B.named
  subst hsz
  have hD := hD0.self (sz := s.heap.size)
  have hA : ∀ q : Nat, s.heap.size ≤ q → va_A ws0 s.heap.size q := fun q h => Or.inr h
  have hS : va_S (va_A ws0 s.heap.size) s.heap s.heap [] := va_S.rf
  have hl := lv_entry av (n := μ.2.2.1) hn
  rw [lg_entry_eq]
  exact h l _ p e s m _ below meth c s.heap [] _ ⟨B.exec, B.bytes, B.returns, hml, hown, hts, B.notSynchronized, hK, hN, hA, (name_of_methodNamed B.named B.method).1.trans hi⟩ hP hD hS hl
theorem fm_of {α β : Type} {f : α → Option β} : ∀ {l : List α} {r : List β}, l.map f = r.map some → l.filterMap f = r
  | [], [], _ => rfl
  | [], _ :: _, h => by simp at h
  | _ :: _, [], h => by simp at h
  | a :: l, b :: r, h => by
    rw [List.map_cons, List.map_cons, List.cons.injEq] at h
    rw [List.filterMap_cons, h.1, fm_of h.2]
section YR
variable {D : va_G} {tys : yT} {μ : xM} {R : Room} {P : va_W → yT → Prop} {pc : Nat} {lv : List (Nat × Value)} {st : List Value} {ws : va_W} {k n : Nat}
theorem y_aload_n {f : Fin 4} (i j : Nat) {x : Nat} (hd : decode μ.2.1 pc = .ok (.aload_n f, 1)) (hi : (f : Nat) = i) (hj : lv[j]? = some (i, .ref x)) (kk : Yx D tys μ R P (pc + 1) lv (.ref x :: st) ws k n) : Yx D tys μ R P pc lv st ws k n := by
  intro l A p e s m args below meth c H locs la hC hP hD hS hl
  exact lv_aload_n hC.1 hC.2.1 hd hi (lv_at hl j hj) (kk l A p e s m args below meth c H locs la hC hP hD hS hl)
theorem y_iload_n {f : Fin 4} (i j : Nat) {x : Int32} (hd : decode μ.2.1 pc = .ok (.iload_n f, 1)) (hi : (f : Nat) = i) (hj : lv[j]? = some (i, .int x)) (kk : Yx D tys μ R P (pc + 1) lv (.int x :: st) ws k n) : Yx D tys μ R P pc lv st ws k n := by
  intro l A p e s m args below meth c H locs la hC hP hD hS hl
  exact lv_iload_n hC.1 hC.2.1 hd hi (lv_at hl j hj) (kk l A p e s m args below meth c H locs la hC hP hD hS hl)
theorem y_iconst {i : Int} {v : Int32} (hd : decode μ.2.1 pc = .ok (.iconst i, 1)) (hv : Int32.ofInt i = v) (kk : Yx D tys μ R P (pc + 1) lv (.int v :: st) ws k n) : Yx D tys μ R P pc lv st ws k n := by
  intro l A p e s m args below meth c H locs la hC hP hD hS hl
  exact lv_iconst hC.1 hC.2.1 hd hv (kk l A p e s m args below meth c H locs la hC hP hD hS hl)
theorem y_bipush {i : Int} {v : Int32} (hd : decode μ.2.1 pc = .ok (.bipush i, 2)) (hv : (Int8.ofInt i).toInt32 = v) (kk : Yx D tys μ R P (pc + 2) lv (.int v :: st) ws k n) : Yx D tys μ R P pc lv st ws k n := by
  intro l A p e s m args below meth c H locs la hC hP hD hS hl
  exact lv_bipush hC.1 hC.2.1 hd hv (kk l A p e s m args below meth c H locs la hC hP hD hS hl)
theorem y_sipush {i : Int} {v : Int32} (hd : decode μ.2.1 pc = .ok (.sipush i, 3)) (hv : (Int16.ofInt i).toInt32 = v) (kk : Yx D tys μ R P (pc + 3) lv (.int v :: st) ws k n) : Yx D tys μ R P pc lv st ws k n := by
  intro l A p e s m args below meth c H locs la hC hP hD hS hl
  exact lv_sipush hC.1 hC.2.1 hd hv (kk l A p e s m args below meth c H locs la hC hP hD hS hl)
theorem y_istore_n {f : Fin 4} (i : Nat) {x : Int32} {lv' : List (Nat × Value)} (hd : decode μ.2.1 pc = .ok (.istore_n f, 1)) (hi : (f : Nat) = i) (hn : i < μ.2.2.1) (hl' : (i, Value.int x) :: lv.filter (fun q => !(q.1 == i) && !(q.1 + 1 == i && q.2.category == 2)) = lv') (kk : Yx D tys μ R P (pc + 1) lv' st ws k n) : Yx D tys μ R P pc lv (.int x :: st) ws k n := by
  intro l A p e s m args below meth c H locs la hC hP hD hS hl
  exact lv_istore_n hC.1 hC.2.1 hd hi hl hn hl' (fun la' hl2 => kk l A p e s m args below meth c H locs la' hC hP hD hS hl2)
theorem y_iinc (i j : Nat) {a : Int} {x v : Int32} {lv' : List (Nat × Value)} (hd : decode μ.2.1 pc = .ok (.iinc i a, 3)) (hj : lv[j]? = some (i, .int x)) (hv : x + Int32.ofInt a = v) (hn : i < μ.2.2.1) (hl' : (i, Value.int v) :: lv.filter (fun q => !(q.1 == i) && !(q.1 + 1 == i && q.2.category == 2)) = lv') (kk : Yx D tys μ R P (pc + 3) lv' st ws k n) : Yx D tys μ R P pc lv st ws k n := by
  intro l A p e s m args below meth c H locs la hC hP hD hS hl
  exact lv_iinc hC.1 hC.2.1 hd hl hj hv hn hl' (fun la' hl2 => kk l A p e s m args below meth c H locs la' hC hP hD hS hl2)
theorem y_geT {x y : Int32} {off : Int} {tgt : Nat} (hd : decode μ.2.1 pc = .ok (.if_icmp .ge off, 3)) (ht : (pc : Int) + off = (tgt : Int)) (hc : y ≤ x) (kk : Yx D tys μ R P tgt lv st ws k n) : Yx D tys μ R P pc lv (.int y :: .int x :: st) ws k n := by
  intro l A p e s m args below meth c H locs la hC hP hD hS hl
  exact lv_icmp_ge hC.1 hC.2.1 hd ht (fun _ => kk l A p e s m args below meth c H locs la hC hP hD hS hl) (fun h => absurd hc h)
theorem y_geF {x y : Int32} {off : Int} (tgt : Nat) (hd : decode μ.2.1 pc = .ok (.if_icmp .ge off, 3)) (ht : (pc : Int) + off = (tgt : Int)) (hc : ¬ y ≤ x) (kk : Yx D tys μ R P (pc + 3) lv st ws k n) : Yx D tys μ R P pc lv (.int y :: .int x :: st) ws k n := by
  intro l A p e s m args below meth c H locs la hC hP hD hS hl
  exact lv_icmp_ge hC.1 hC.2.1 hd ht (fun h => absurd h hc) (fun _ => kk l A p e s m args below meth c H locs la hC hP hD hS hl)
theorem y_goto {off : Int} {tgt : Nat} (hd : decode μ.2.1 pc = .ok (.goto off, 3)) (ht : (pc : Int) + off = (tgt : Int)) (kk : Yx D tys μ R P tgt lv st ws k n) : Yx D tys μ R P pc lv st ws k n := by
  intro l A p e s m args below meth c H locs la hC hP hD hS hl
  exact lv_goto hC.1 hC.2.1 hd ht (kk l A p e s m args below meth c H locs la hC hP hD hS hl)
theorem y_dup {v : Value} (hd : decode μ.2.1 pc = .ok (.dup, 1)) (hv : v.category = 1) (kk : Yx D tys μ R P (pc + 1) lv (v :: v :: st) ws k n) : Yx D tys μ R P pc lv (v :: st) ws k n := by
  intro l A p e s m args below meth c H locs la hC hP hD hS hl
  exact lv_dup hC.1 hC.2.1 hd hv (kk l A p e s m args below meth c H locs la hC hP hD hS hl)
/-- a known array class is the only one of its name -/
theorem K_one {tys tys' : yT} {s : State} {c1 c2 : ClassId} {i j : Nat} {ty : FieldType} (h1 : va_K D vwCl tys s) (h2 : va_K D vwCl tys' s) (hi : tys[i]? = some (c1, ty)) (hj : tys'[j]? = some (c2, ty)) (ht : ty = .int ∨ ty = .boolean) : c1 = c2 := by
  have e1 := (h1.2 i _ hi).2
  have e2 := (h2.2 j _ hj).2
  rcases ht with rfl | rfl
  · exact Option.some.inj (Eq.trans (Eq.symm (show s.vm.findClass _ = some c1 from e1)) (show s.vm.findClass _ = some c2 from e2))
  · exact Option.some.inj (Eq.trans (Eq.symm (show s.vm.findClass _ = some c1 from e1)) (show s.vm.findClass _ = some c2 from e2))
theorem y_newaI (t : Nat) {cA : ClassId} {v : Int32} {N : Nat} (hd : decode μ.2.1 pc = .ok (.newarray .int, 2)) (ht : tys[t]? = some (cA, .int)) (hv : v = nI N) (hN : N < 100000) (hk : k + 1 ≤ R.cells) (hn : n + N ≤ R.slots) (kk : ∀ q : Nat, Yx D tys μ R P (pc + 2) lv (.ref q :: st) (ws ++ [(q, .inl (cA, N, .inl (fun _ => 0)))]) (k + 1) (n + N)) : Yx D tys μ R P pc lv (.int v :: st) ws k n := by
  intro l A p e s m args below meth c H locs la hC hP hD hS hl
  subst hv
  refine va_newa (atype := .int) (a0 := (N, .inl (fun _ => 0))) hC.1 hC.2.1 (hC.2.2.2.2.2.1 _ ac_int) rfl hC.2.2.2.2.2.2.2.1 hP hD hS hC.2.2.2.2.2.2.2.2.2.1 (fun _ => rfl) (nI_pos (by omega)) (nI_clamp (by omega)) (by show N * 4 ≤ _; omega) hk hn hd (fun q cA' H1 hK1 hP1 hD1 hS1 => ?_)
  have e1 : cA' = cA := K_one hK1 hC.2.2.2.2.2.2.2.1 (i := tys.length) (j := t) (by simp; rfl) ht (Or.inl rfl)
  subst e1
  exact kk q l A p e s m args below meth c H1 locs la hC hP1 hD1 hS1 hl
theorem y_newaZ (t : Nat) {cA : ClassId} {v : Int32} {N : Nat} (hd : decode μ.2.1 pc = .ok (.newarray .boolean, 2)) (ht : tys[t]? = some (cA, .boolean)) (hv : v = nI N) (hN : N < 100000) (hk : k + 1 ≤ R.cells) (hn : n + N ≤ R.slots) (kk : ∀ q : Nat, Yx D tys μ R P (pc + 2) lv (.ref q :: st) (ws ++ [(q, .inl (cA, N, .inl (fun _ => 0)))]) (k + 1) (n + N)) : Yx D tys μ R P pc lv (.int v :: st) ws k n := by
  intro l A p e s m args below meth c H locs la hC hP hD hS hl
  subst hv
  refine va_newa (atype := .boolean) (a0 := (N, .inl (fun _ => 0))) hC.1 hC.2.1 (hC.2.2.2.2.2.1 _ ac_bool) rfl hC.2.2.2.2.2.2.2.1 hP hD hS hC.2.2.2.2.2.2.2.2.2.1 (fun _ => rfl) (nI_pos (by omega)) (nI_clamp (by omega)) (by show N * 1 ≤ _; omega) hk hn hd (fun q cA' H1 hK1 hP1 hD1 hS1 => ?_)
  have e1 : cA' = cA := K_one hK1 hC.2.2.2.2.2.2.2.1 (i := tys.length) (j := t) (by simp; rfl) ht (Or.inr rfl)
  subst e1
  exact kk q l A p e s m args below meth c H1 locs la hC hP1 hD1 hS1 hl
theorem y_anewa {idx : Nat} {v : Int32} {N : Nat} (hcl : Cond.classLink μ.1 idx "GraveRows$Dig" ∈ x_good) (hd : decode μ.2.1 pc = .ok (.anewarray idx, 3)) (hv : v = nI N) (hN : N < 100000) (hk : k + 1 ≤ R.cells) (hn : n + N ≤ R.slots) (kk : ∀ (q : Nat) (cA : ClassId), Yx D (tys ++ [(cA, .object "GraveRows$Dig")]) μ R P (pc + 3) lv (.ref q :: st) (ws ++ [(q, .inl (cA, N, .inr (.inr (.inr (.inr (fun _ => none))))))]) (k + 1) (n + N)) : Yx D tys μ R P pc lv (.int v :: st) ws k n := by
  intro l A p e s m args below meth c H locs la hC hP hD hS hl
  subst hv
  obtain ⟨c1, c2, c3, c4, c5, c6, c7, c8, c9, c10, c11⟩ := hC
  exact va_newq c1 c2 c5 (c6 _ hcl) c9.2.2.2.2.2.1 c8 hP hD hS c10 (nI_pos (by omega)) (nI_clamp (by omega)) (by omega) hk hn hd (fun q cA H1 hK1 hP1 hD1 hS1 => kk q cA l A p e s m args below meth c H1 locs la ⟨c1, c2, c3, c4, c5, c6, c7, hK1, c9, c10, c11⟩ hP1 hD1 hS1 hl)
theorem y_new (ci : Nat) {idx N : Nat} {C : String} {T : u_T} {fs : List Value} (ty : Nat → FieldType) (hty : ∀ k, k < N → parseFieldDescriptor (T k).2.2.1 = some (ty k)) (hc : vwCl[ci]? = some (C, T, N)) (hcl : Cond.classLink μ.1 idx C ∈ x_good) (hins : Cond.instantiable C N ∈ x_good) (hini : Cond.initialized C ∈ x_good) (hfs : ∀ j, j < N → defaultValue (ty j) = vp_V fs j) (hd : decode μ.2.1 pc = .ok (.new idx, 3)) (hk : k + 1 ≤ R.cells) (hn : n + N ≤ R.slots) (kk : ∀ q : Nat, Yx D tys μ R P (pc + 3) lv (.ref q :: st) (ws ++ [(q, .inr (ci, fs))]) (k + 1) (n + N)) : Yx D tys μ R P pc lv st ws k n := by
  intro l A p e s m args below meth c H locs la hC hP hD hS hl
  have hw := hC.2.2.2.2.2.1
  exact va_new hC.1 hC.2.1 hw (x_cls ci _ hc).1 ty hty hC.2.2.2.2.1 (hw _ hcl) (hw _ hins) (hw _ hini) hC.2.2.2.2.2.2.2.1 hP hD hS hC.2.2.2.2.2.2.2.2.2.1 hc hfs hk hn hd (fun q H1 hP1 hD1 hS1 => kk q l A p e s m args below meth c H1 locs la hC hP1 hD1 hS1 hl)
theorem y_putF (ci j q0 : Nat) {a idx N : Nat} {C : String} {T : u_T} {fs : List Value} {ty : FieldType} {v : Value} {ws' : va_W} (hc : vwCl[ci]? = some (C, T, N)) (he : ws[q0]? = some (a, .inr (ci, fs))) (hj : j < N) (hlink : Cond.fieldLink μ.1 idx (T j).1 (T j).2.1 (T j).2.2.1 ∈ x_good) (hfin : (T j).2.2.2 = true) (hdecl : (T j).1 = μ.1) (hty : parseFieldDescriptor (T j).2.2.1 = some ty) (hn : narrow ty v = v) (hfit : fits ty v = true) (hl : decide (j < fs.length) = true) (hd : decode μ.2.1 pc = .ok (.putfield idx, 3)) (hw : ws.set q0 (a, .inr (ci, fs.set j v)) = ws') (kk : Yx D tys μ R P (pc + 3) lv st ws' k n) : Yx D tys μ R P pc lv (v :: .ref a :: st) ws k n := by
  intro l A p e s m args below meth c H locs la hC hP hD hS hla
  obtain ⟨h1, ⟨ty0, h2⟩, h3⟩ := x_cls ci _ hc
  subst hw
  exact va_putF hC.1 hC.2.1 hC.2.2.2.2.2.1 h1 ty0 h2 h3 hC.2.2.2.2.1 hC.2.2.2.2.2.2.2.1 hP hD hS q0 he hc j hj (hC.2.2.2.2.2.1 _ hlink) (fun _ h => h) hfin hC.2.2.2.2.2.2.2.2.2.2 hdecl hty hn hfit (of_decide_eq_true hl) hd (fun H1 locs1 hP1 hD1 hS1 => kk l A p e s m args below meth c H1 locs1 la hC hP1 hD1 hS1 hla)
theorem y_put (ci j q0 : Nat) {a idx N : Nat} {C : String} {T : u_T} {fs : List Value} {ty : FieldType} {v : Value} {ws' : va_W} (hc : vwCl[ci]? = some (C, T, N)) (he : ws[q0]? = some (a, .inr (ci, fs))) (hj : j < N) (hlink : Cond.fieldLink μ.1 idx (T j).1 (T j).2.1 (T j).2.2.1 ∈ x_good) (hfin : (T j).2.2.2 = false) (hty : parseFieldDescriptor (T j).2.2.1 = some ty) (hn : narrow ty v = v) (hfit : fits ty v = true) (hl : decide (j < fs.length) = true) (hd : decode μ.2.1 pc = .ok (.putfield idx, 3)) (hw : ws.set q0 (a, .inr (ci, fs.set j v)) = ws') (kk : Yx D tys μ R P (pc + 3) lv st ws' k n) : Yx D tys μ R P pc lv (v :: .ref a :: st) ws k n := by
  intro l A p e s m args below meth c H locs la hC hP hD hS hla
  obtain ⟨h1, ⟨ty0, h2⟩, h3⟩ := x_cls ci _ hc
  subst hw
  exact va_put hC.1 hC.2.1 hC.2.2.2.2.2.1 h1 ty0 h2 h3 hC.2.2.2.2.1 hC.2.2.2.2.2.2.2.1 hP hD hS q0 he hc j hj (hC.2.2.2.2.2.1 _ hlink) (fun _ h => h) hfin hty hn hfit (of_decide_eq_true hl) hd (fun H1 locs1 hP1 hD1 hS1 => kk l A p e s m args below meth c H1 locs1 la hC hP1 hD1 hS1 hla)
theorem y_get (ci j q0 : Nat) {a idx N : Nat} {C : String} {T : u_T} {fs : List Value} {v : Value} (hc : vwCl[ci]? = some (C, T, N)) (he : ws[q0]? = some (a, .inr (ci, fs))) (hj : j < N) (hlink : Cond.fieldLink μ.1 idx (T j).1 (T j).2.1 (T j).2.2.1 ∈ x_good) (hv : fs[j]? = some v) (hd : decode μ.2.1 pc = .ok (.getfield idx, 3)) (kk : Yx D tys μ R P (pc + 3) lv (v :: st) ws k n) : Yx D tys μ R P pc lv (.ref a :: st) ws k n := by
  intro l A p e s m args below meth c H locs la hC hP hD hS hla
  exact va_get hC.1 hC.2.1 hC.2.2.2.2.2.1 (x_cls ci _ hc).1 hC.2.2.2.2.1 hC.2.2.2.2.2.2.2.1 hP q0 he hc j hj (hC.2.2.2.2.2.1 _ hlink) (fun _ h => h) hv hd (kk l A p e s m args below meth c H locs la hC hP hD hS hla)
theorem y_iast (q0 t : Nat) {a N i : Nat} {cA : ClassId} {f : Nat → Int32} {x v : Int32} {ws' : va_W} (he : ws[q0]? = some (a, .inl (cA, N, .inl f))) (ht : tys[t]? = some (cA, .int)) (hv : v = nI i) (hi : i < N) (hN : N < 100000) (hd : decode μ.2.1 pc = .ok (.iastore, 1)) (hw : ws.set q0 (a, .inl (cA, N, .inl (upd f i x))) = ws') (kk : Yx D tys μ R P (pc + 1) lv st ws' k n) : Yx D tys μ R P pc lv (.int x :: .int v :: .ref a :: st) ws k n := by
  intro l A p e s m args below meth c H locs la hC hP hD hS hla
  subst hv
  subst hw
  refine va_iast hC.1 hC.2.1 hC.2.2.2.2.2.2.2.1 hP hD hS q0 t he ht (vp_in_nI hi (by omega)) hd (fun H1 locs1 hP1 hD1 hS1 => ?_)
  rw [nI_clamp (by omega)] at hP1 hD1
  exact kk l A p e s m args below meth c H1 locs1 la hC hP1 hD1 hS1 hla
theorem y_aast (q0 t qk ci : Nat) {a N i v : Nat} {cA : ClassId} {r : vw_C} {vs : List Value} {f : Nat → Option Nat} {x : Int32} {ws' : va_W} (he : ws[q0]? = some (a, .inl (cA, N, .inr (.inr (.inr (.inr f)))))) (ht : tys[t]? = some (cA, .object r.1)) (hv : ws[qk]? = some (v, .inr (ci, vs))) (hc : vwCl[ci]? = some r) (hx : x = nI i) (hi : i < N) (hN : N < 100000) (hd : decode μ.2.1 pc = .ok (.aastore, 1)) (hw : ws.set q0 (a, .inl (cA, N, .inr (.inr (.inr (.inr (va_up f i (some v))))))) = ws') (kk : Yx D tys μ R P (pc + 1) lv st ws' k n) : Yx D tys μ R P pc lv (.ref v :: .int x :: .ref a :: st) ws k n := by
  intro l A p e s m args below meth c H locs la hC hP hD hS hla
  subst hx
  subst hw
  refine va_astq hC.1 hC.2.1 hC.2.2.2.2.2.2.2.1 hP hD hS q0 t qk ci he ht hv hc (vp_in_nI hi (by omega)) hd (fun H1 locs1 hP1 hD1 hS1 => ?_)
  rw [nI_clamp (by omega)] at hP1 hD1
  exact kk l A p e s m args below meth c H1 locs1 la hC hP1 hD1 hS1 hla
theorem y_obj {idx a : Nat} (hlink : Cond.methodLink μ.1 idx objectInit ∈ x_good) (hin : Cond.instanceMethod objectInit ∈ x_good) (hcode : Cond.code objectInit ⟨#[0xb1]⟩ 1 none ∈ x_good) (hd : decode μ.2.1 pc = .ok (.invokespecial idx, 3)) (hR : 1 ≤ R.frames ∧ 12 ≤ R.locals) (kk : Yx D tys μ R P (pc + 3) lv [] ws k n) : Yx D tys μ R P pc lv [.ref a] ws k n := by
  intro l A p e s m args below meth c H locs la hC hP hD hS hl
  have hw := hC.2.2.2.2.2.1
  refine W.objInit hC.1 hC.2.1 hC.2.2.2.2.1 (hw _ hlink) (hw _ hin) (hw _ hcode) rfl (by rw [hC.2.2.2.1]; exact hl.1) rfl hd hR.1 hR.2 ?_
  exact W.eq (g2 := F0 m (pc + 3) la []) rfl (kk l A p e s m args below meth c H locs la hC hP hD hS hl)
theorem y_ret (hd : decode μ.2.1 pc = .ok (.return_, 1)) (hr : μ.2.2.2 = none) (hk : k ≤ R.cells) (hn : n ≤ R.slots) (hp : P ws tys) : Yx D tys μ R P pc lv [] ws k n := by
  intro l A p e s m args below meth c H locs la hC hP hD hS hl
  refine W.widen (k := R.cells) (n := R.slots) hk hn ?_
  exact W.vret hC.1 hC.2.1 (hC.2.2.1.trans hr) (fun t ht hW => ⟨⟨(), rfl, trivial, ws, tys, hp, by rw [ht]; exact hP, va_K.moved hW.alike hC.2.2.2.2.2.2.2.1, hD⟩, hS.F ht⟩) hS.2.2 hd hC.2.2.2.2.2.2.1
theorem y_blind {av : List Value} {ws0 : va_W} {tys0 : yT} {sz : Nat} : FrameBlind (va_Pc av (fun U => U.heap.size = sz ∧ va_P D vwCl ws0 U.heap ∧ va_K D vwCl tys0 U ∧ yNw U ∧ va_D (fun _ => True) ws0)) := by
  intro a U g mk h
  obtain ⟨h1, h2, h3, h4, h5, h6⟩ := h
  exact ⟨h1, h2, h3, va_K.moved (u := U) (U := U.calling g mk a) (Vm.Alike.refl U.vm) h4, yNw.same (u := U) (U := U.calling g mk a) rfl h5, h6⟩
/-- behind the call of a constructor -/
theorem y_back {l : Launch} {A : Nat → Prop} {p : Program} {e : Env} {s : State} {m : MethodId} {args a : Array Value} {below : List Frame} {meth : Method} {c : Code} {H : Heap} {locs : List Loc} {la : Array Slot} {st0 : List Value} {Q : State → Prop} {ws0 wr : va_W} {P' : va_W → yT → Prop} {mc ms : Nat} (isC isR : List Nat) (hP : va_P D vwCl ws H) (hD : va_D A ws) (hS : va_S A s.heap H locs) (hA : ∀ q : Nat, s.heap.size ≤ q → A q) (hC : isC.map (fun i => ws[i]?) = ws0.map some) (hRr : isR.map (fun i => ws[i]?) = wr.map some) (hnd : va_nd isR = true) (hdis : ∀ i ∈ isR, i ∉ isC)
    (hr : va_Run p l e R s m args below meth c H locs k n mc ms (F0 m pc la st0) st (va_Qv (fun _ : Unit => True) (fun _ t => yB D P' (va_A ws0 H.size) t) (va_A ws0 H.size) a) (va_A ws0 H.size))
    (kk : ∀ (w1 : va_W) (tys1 : yT) (H1 : Heap) (locs1 : List Loc), P' w1 tys1 → va_P D vwCl (wr ++ w1) H1 → va_D A (wr ++ w1) → va_S A s.heap H1 locs1 → va_K D vwCl tys1 s → W p l e R s m args below meth c H1 locs1 (k + mc) (n + ms) Q (F0 m (pc + 3) la st)) : W p l e R s m args below meth c H locs k n Q (F0 m pc la st0) := by
  have hFc := va_free (wc := ws0) hD hS hA isC hC
  refine va_callv hr hS (fun q _ h => hFc q h) hFc (fun u t H1 locs1 ht hvm hw hB hz1 hk1 hS1 => ?_)
  obtain ⟨w1, tys1, hp, hP1, hK1, hD1⟩ := hB
  rw [ht] at hP1
  obtain ⟨hP2, hD2⟩ := va_join (wr := wr) (w1 := w1) hP hD isC isR hC hRr hnd hdis hk1 hFc hP1 hD1
  exact kk w1 tys1 H1 locs1 hp hP2 hD2 hS1 (va_K.moved hvm.symm hK1)
/-- a constructor is called, by an ordinary link -/
theorem y_callI {idx b : Nat} {y : MethodName} {μ' : xM} {R' : Room} {tys' : yT} {ws0 wr : va_W} {P' : va_W → yT → Prop} (isC isR ks : List Nat) (hl1 : Cond.methodLink μ.1 idx y ∈ x_good) (hl2 : Cond.instanceMethod y ∈ x_good) (hy : xcal y μ' 0) (hr : μ'.2.2.2 = none) (hi : y.name = "<init>") (hM : Cy D y μ' R' [.ref b] tys' ws0 P') (hd : decode μ.2.1 pc = .ok (.invokespecial idx, 3)) (hC : isC.map (fun i => ws[i]?) = ws0.map some) (hRr : isR.map (fun i => ws[i]?) = wr.map some) (hnd : va_nd isR = true) (hnc : va_nd isC = true) (hdis : ∀ i ∈ isR, i ∉ isC) (hks : ks.filterMap (fun i => tys[i]?) = tys') (hfr : R'.frames + 1 ≤ R.frames ∧ 8 + (μ'.2.2.1 + 11) + R'.locals ≤ R.locals) (hf : k + R'.cells ≤ R.cells ∧ n + R'.slots ≤ R.slots) (hst : (st.map fun v => v.category).sum ≤ 8) (kk : ∀ (w1 : va_W) (tys1 : yT), P' w1 tys1 → Yx D tys μ R P (pc + 3) lv st (wr ++ w1) (k + R'.cells) (n + R'.slots)) : Yx D tys μ R P pc lv (.ref b :: st) ws k n := by
  intro l A p e s m args below meth c H locs la hC' hP hD hS hl
  have hw := hC'.2.2.2.2.2.1
  have hPc := va_P.sub hP isC (fm_of hC)
  have hDc := va_D.sub hD isC hnc hC
  have hKc := hC'.2.2.2.2.2.2.2.1.sub ks hks
  have hM' := hM l H.size
  rw [hr] at hM'
  refine y_back isC isR hP hD hS hC'.2.2.2.2.2.2.2.2.2.1 hC hRr hnd hdis (va_runI (As := []) (rest := st) ⟨hC'.1, hC'.2.1, hC'.2.2.2.1, hC'.2.2.2.2.1, hw⟩ hM' ⟨callB_of 0 hw (x_goodIn (by have := hy.1; rw [hr] at this; exact this)) rfl rfl rfl (hw _ hy.2.1) (hw _ hl1) hy.2.2.1 hfr, hi, hw _ hl2⟩ ⟨y_blind, fun U hU hW => ⟨rfl, by rw [hU], by rw [hU]; exact hPc, va_K.moved hW.alike hKc, hC'.2.2.2.2.2.2.2.2.1.warm hW, hDc.weaken (fun _ _ _ _ => trivial)⟩⟩ rfl rfl hl.1 rfl (lv_room hst) hd hf) (fun w1 tys1 H1 locs1 h1 h2 h3 h4 _ => kk w1 tys1 h1 l A p e s m args below meth c H1 locs1 la hC' h2 h3 h4 hl)
/-- a constructor of a nest mate is called -/
theorem y_callN {idx b : Nat} {y : MethodName} {μ' : xM} {R' : Room} {tys' : yT} {ws0 wr : va_W} {P' : va_W → yT → Prop} (isC isR ks : List Nat) (hl1 : ∀ s, yNw s → va_Nw (.methodLinkNest μ.1 idx y "GraveRows") s) (hl2 : Cond.instanceMethod y ∈ x_good) (hy : xcal y μ' 0) (hr : μ'.2.2.2 = none) (hi : y.name = "<init>") (hM : Cy D y μ' R' [.ref b] tys' ws0 P') (hd : decode μ.2.1 pc = .ok (.invokespecial idx, 3)) (hC : isC.map (fun i => ws[i]?) = ws0.map some) (hRr : isR.map (fun i => ws[i]?) = wr.map some) (hnd : va_nd isR = true) (hnc : va_nd isC = true) (hdis : ∀ i ∈ isR, i ∉ isC) (hks : ks.filterMap (fun i => tys[i]?) = tys') (hfr : R'.frames + 1 ≤ R.frames ∧ 8 + (μ'.2.2.1 + 11) + R'.locals ≤ R.locals) (hf : k + R'.cells ≤ R.cells ∧ n + R'.slots ≤ R.slots) (hst : (st.map fun v => v.category).sum ≤ 8) (kk : ∀ (w1 : va_W) (tys1 : yT), P' w1 tys1 → Yx D tys μ R P (pc + 3) lv st (wr ++ w1) (k + R'.cells) (n + R'.slots)) : Yx D tys μ R P pc lv (.ref b :: st) ws k n := by
  intro l A p e s m args below meth c H locs la hC' hP hD hS hl
  have hw := hC'.2.2.2.2.2.1
  have hPc := va_P.sub hP isC (fm_of hC)
  have hDc := va_D.sub hD isC hnc hC
  have hKc := hC'.2.2.2.2.2.2.2.1.sub ks hks
  have hM' := hM l H.size
  rw [hr] at hM'
  refine y_back isC isR hP hD hS hC'.2.2.2.2.2.2.2.2.2.1 hC hRr hnd hdis (va_runIN (As := []) (rest := st) ⟨hC'.1, hC'.2.1, hC'.2.2.2.1, hC'.2.2.2.2.1, hw⟩ hM' ⟨va_cnB 0 hw (x_goodIn (by have := hy.1; rw [hr] at this; exact this)) rfl rfl rfl (hl1 s hC'.2.2.2.2.2.2.2.2.1) (hw _ hy.2.1) hy.2.2.1 hfr, hi, hw _ hl2⟩ ⟨y_blind, fun U hU hW => ⟨rfl, by rw [hU], by rw [hU]; exact hPc, va_K.moved hW.alike hKc, hC'.2.2.2.2.2.2.2.2.1.warm hW, hDc.weaken (fun _ _ _ _ => trivial)⟩⟩ rfl rfl hl.1 rfl (lv_room hst) hd hf) (fun w1 tys1 H1 locs1 h1 h2 h3 h4 _ => kk w1 tys1 h1 l A p e s m args below meth c H1 locs1 la hC' h2 h3 h4 hl)
end YR
