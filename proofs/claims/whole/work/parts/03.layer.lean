/-! THE LAYER. A method is walked over an abstract memory: a table of cells (the layout, fixed), each with its row of ints; references are the cells' numbers. Wx says: the machine at this pc, with these locals, this stack, this memory, comes to a return of which Q holds. -/
def x_good : List Cond := lw_tbl.filter goodWord
theorem x_in {w : Cond} (h : w ∈ lw_tbl) (hg : goodWord w = true) : w ∈ x_good := List.mem_filter.mpr ⟨h, hg⟩
theorem x_goodIn {y : MethodName} {b : ByteArray} {n : Nat} {r : Option FieldType} (h : Cond.code y b n r ∈ x_good) : GoodIn x_good (Cond.code y b n r :: x_good) := fun w hw => by
  rcases List.mem_cons.mp hw with rfl | hw
  · exact ⟨h, good_of_word (List.mem_filter.mp h).2⟩
  · exact ⟨hw, good_of_word (List.mem_filter.mp hw).2⟩
abbrev xMem : Type := Nat → Nat → Int32
abbrev xLK : Type := (Nat × Nat) ⊕ (Nat × List (Option Nat)) ⊕ (Nat × Nat × (Nat → Option Nat))
abbrev xLay : Type := Nat × (Nat → xLK)
abbrev xG : Type := va_G × (Nat → ClassId) × (Nat → Nat)
abbrev xM : Type := String × ByteArray × Nat × Option FieldType
def xv (ad : Nat → Nat) (v : Value) : Value := match v with
  | .ref k => .ref (ad k)
  | v => v
theorem xv_cat (ad : Nat → Nat) (v : Value) : (xv ad v).category = v.category := by cases v <;> rfl
def xfs (ad : Nat → Nat) (row : Nat → Int32) : Nat → List (Option Nat) → List Value
  | _, [] => []
  | j, none :: r => .int (row j) :: xfs ad row (j + 1) r
  | j, some k :: r => .ref (ad k) :: xfs ad row (j + 1) r
def xfv (ad : Nat → Nat) (row : Nat → Int32) (j : Nat) (o : Option Nat) : Value := match o with
  | none => .int (row j)
  | some k => .ref (ad k)
theorem xfs_at (ad : Nat → Nat) (row : Nat → Int32) : ∀ (fs : List (Option Nat)) (j i : Nat), (xfs ad row j fs)[i]? = (fs[i]?).map (xfv ad row (j + i))
  | [], j, i => by simp [xfs]
  | none :: r, j, 0 => by simp [xfs, xfv]
  | some k :: r, j, 0 => by simp [xfs, xfv]
  | none :: r, j, i + 1 => by simp only [xfs, List.getElem?_cons_succ]; rw [xfs_at ad row r (j + 1) i]; congr 2; omega
  | some k :: r, j, i + 1 => by simp only [xfs, List.getElem?_cons_succ]; rw [xfs_at ad row r (j + 1) i]; congr 2; omega
theorem xfs_len (ad : Nat → Nat) (row : Nat → Int32) : ∀ (fs : List (Option Nat)) (j : Nat), (xfs ad row j fs).length = fs.length
  | [], j => rfl
  | none :: r, j => by simp [xfs, xfs_len ad row r]
  | some k :: r, j => by simp [xfs, xfs_len ad row r]
theorem xfs_set (ad : Nat → Nat) (row : Nat → Int32) {fs : List (Option Nat)} {i : Nat} (h : fs[i]? = some none) (x : Int32) : (xfs ad row 0 fs).set i (.int x) = xfs ad (upd row i x) 0 fs := by
  apply List.ext_getElem?
  intro q
  rw [List.getElem?_set, xfs_at, xfs_at, xfs_len]
  have hi : i < fs.length := (List.getElem?_eq_some_iff.mp h).1
  by_cases e : i = q
  · subst e
    rw [if_pos rfl, if_pos hi, h]
    simp [xfv, upd]
  · rw [if_neg e]
    cases hq : fs[q]? with
    | none => rfl
    | some o =>
      cases o with
      | none => simp [xfv, upd, Ne.symm e]
      | some k => simp [xfv]
def xE (G : xG) (row : Nat → Int32) (k : xLK) : va_E := match k with
  | .inl (t, n) => .inl (G.2.1 t, n, .inl row)
  | .inr (.inl (ci, fs)) => .inr (ci, xfs G.2.2 row 0 fs)
  | .inr (.inr (t, n, g)) => .inl (G.2.1 t, n, .inr (.inr (.inr (.inr (fun j => (g j).map G.2.2)))))
def xw (Λ : xLay) (G : xG) (I : xMem) : va_W := (List.range Λ.1).map (fun k => (G.2.2 k, xE G (I k) (Λ.2 k)))
theorem xw_at {Λ : xLay} {G : xG} {I : xMem} {k : Nat} (h : k < Λ.1) : (xw Λ G I)[k]? = some (G.2.2 k, xE G (I k) (Λ.2 k)) := by
  simp [xw, h]
theorem xw_of {Λ : xLay} {G : xG} {I : xMem} {k : Nat} {q : Nat × va_E} (h : (xw Λ G I)[k]? = some q) : k < Λ.1 ∧ q = (G.2.2 k, xE G (I k) (Λ.2 k)) := by
  have hk : k < Λ.1 := by
    have := (List.getElem?_eq_some_iff.mp h).1
    simpa [xw] using this
  exact ⟨hk, Option.some.inj (h.symm.trans (xw_at hk))⟩
theorem xw_set {Λ : xLay} {G : xG} {I : xMem} {k : Nat} (row : Nat → Int32) {e : va_E} (he : xE G row (Λ.2 k) = e) : (xw Λ G I).set k (G.2.2 k, e) = xw Λ G (va_up I k row) := by
  apply List.ext_getElem?
  intro q
  rw [List.getElem?_set]
  have hl : (xw Λ G I).length = Λ.1 := by simp [xw]
  by_cases e1 : k = q
  · subst e1
    rw [if_pos rfl, hl]
    by_cases hk : k < Λ.1
    · rw [if_pos hk, xw_at hk]; simp [va_up, he]
    · rw [if_neg hk]; symm; simp [xw]; omega
  · rw [if_neg e1]
    by_cases hk : q < Λ.1
    · rw [xw_at hk, xw_at hk]; simp [va_up, Ne.symm e1]
    · simp [xw, hk]
/-- where the cells lie doesn't hang on what they hold -/
theorem xw_D {Λ : xLay} {G : xG} {I J : xMem} {A : Nat → Prop} (h : va_D A (xw Λ G I)) : va_D A (xw Λ G J) := by
  refine ⟨fun i j p q hp hq e => ?_, fun k q hk => ?_⟩
  · obtain ⟨h1, rfl⟩ := xw_of hp
    obtain ⟨h2, rfl⟩ := xw_of hq
    exact h.1 i j _ _ (xw_at (I := I) h1) (xw_at (I := I) h2) e
  · obtain ⟨h1, rfl⟩ := xw_of hk
    exact h.2 k (G.2.2 k, xE G (I k) (Λ.2 k)) (xw_at h1)
def xup (I : xMem) (k j : Nat) (x : Int32) : xMem := va_up I k (upd (I k) j x)
abbrev xtys (G : xG) : List (ClassId × FieldType) := [(G.2.1 0, .int), (G.2.1 1, .boolean), (G.2.1 2, .object "GraveRows$Dig")]
def y_CostNext : MethodName := ⟨"GraveRows$Cost", "ofNext", "(III)I"⟩
def xNw (s : State) : Prop := va_Nw (.methodLinkNest RX2 31 yX5_isMember "GraveRows") s ∧ va_Nw (.methodLinkNest RX0 47 yX5_isMember "GraveRows") s ∧ va_Nw (.declares y_CostNext) s
theorem xNw.warm {s U : State} (hW : s.WarmedH U.vm) (h : xNw s) : xNw U := ⟨va_Nw.warmM hW h.1, va_Nw.warmM hW h.2.1, va_Nw.warmD hW h.2.2⟩
theorem xNw.same {u U : State} (e : u.vm = U.vm) (h : xNw u) : xNw U := ⟨va_Nw.same rfl e h.1, va_Nw.same rfl e h.2.1, va_Nw.same rfl e h.2.2⟩
def xrm (d : Nat) : Room := { frames := d, cells := 0, slots := 0, locals := 34 * d }
def xQ (Λ : xLay) (G : xG) (A : Nat → Prop) (Q : Option Value → xMem → Prop) : Array Value → State → Outcome → State → Prop := fun _ st oc t =>
  (∃ (v : Option Value) (J : xMem), oc = .returned (v.map (xv G.2.2)) ∧ Q v J ∧ va_P G.1 vwCl (xw Λ G J) t.heap) ∧ va_F A st t
def xC (μ : xM) (G : xG) (A : Nat → Prop) (p : Program) (s : State) (m : MethodId) (args : Array Value) (meth : Method) (c : Code) : Prop :=
  p.tables.exec = Jvm.exec ∧ c.code = μ.2.1 ∧ meth.sig.returnType = μ.2.2.2 ∧ c.maxLocals = μ.2.2.1 ∧ s.vm.findClass μ.1 = some m.cls ∧ (∀ w ∈ x_good, w.before args s = true) ∧ meth.locks = false ∧ va_K G.1 vwCl (xtys G) s ∧ xNw s ∧ ∀ q : Nat, s.heap.size ≤ q → A q
/-- the locals that are held: ints and cells -/
def xal (ad : Nat → Nat) : Nat → List Value → List (Nat × Value)
  | _, [] => []
  | i, .int x :: r => (i, .int x) :: xal ad (i + 1) r
  | i, .ref k :: r => (i, .ref (ad k)) :: xal ad (i + 1) r
  | i, _ :: r => xal ad (i + 1) r
def Wx (Λ : xLay) (μ : xM) (d : Nat) (Q : Option Value → xMem → Prop) (pc : Nat) (ls st : List Value) (I : xMem) : Prop :=
  ∀ (l : Launch) (G : xG) (A : Nat → Prop) (p : Program) (e : Env) (s : State) (m : MethodId) (args : Array Value) (below : List Frame) (meth : Method) (c : Code) (H : Heap) (locs : List Loc) (la : Array Slot),
    xC μ G A p s m args meth c → va_P G.1 vwCl (xw Λ G I) H → va_D A (xw Λ G I) → va_S A s.heap H locs → lv_has la μ.2.2.1 (xal G.2.2 0 ls) →
    W p l e (xrm d) s m args below meth c H locs 0 0 (MQ below (xQ Λ G A Q) args s 0 0 A) (F0 m pc la (st.map (xv G.2.2)))
theorem xal_int (ad : Nat → Nat) {x : Int32} : ∀ {ls : List Value} {j i : Nat}, ls[i]? = some (.int x) → (j + i, Value.int x) ∈ xal ad j ls := by
  intro ls
  induction ls with
  | nil => intro j i h; simp at h
  | cons v r ih =>
    intro j i h
    cases i with
    | zero => simp at h; subst h; exact List.mem_cons_self
    | succ i =>
      have h2 := ih (j := j + 1) (i := i) (by simpa using h)
      rw [show j + 1 + i = j + (i + 1) by omega] at h2
      cases v <;> simp [xal, h2]
theorem xal_ref (ad : Nat → Nat) {k : Nat} : ∀ {ls : List Value} {j i : Nat}, ls[i]? = some (.ref k) → (j + i, Value.ref (ad k)) ∈ xal ad j ls := by
  intro ls
  induction ls with
  | nil => intro j i h; simp at h
  | cons v r ih =>
    intro j i h
    cases i with
    | zero => simp at h; subst h; exact List.mem_cons_self
    | succ i =>
      have h2 := ih (j := j + 1) (i := i) (by simpa using h)
      rw [show j + 1 + i = j + (i + 1) by omega] at h2
      cases v <;> simp [xal, h2]
theorem xal_lo (ad : Nat → Nat) : ∀ (ls : List Value) (j : Nat), ∀ q ∈ xal ad j ls, j ≤ q.1 ∧ q.2.category = 1 := by
  intro ls
  induction ls with
  | nil => intro j q h; simp [xal] at h
  | cons v r ih =>
    intro j q h
    have tl : q ∈ xal ad (j + 1) r → j ≤ q.1 ∧ q.2.category = 1 := fun h => ⟨by have := (ih (j + 1) q h).1; omega, (ih (j + 1) q h).2⟩
    cases v with
    | int x => simp only [xal, List.mem_cons] at h; rcases h with rfl | h; exact ⟨Nat.le_refl _, rfl⟩; exact tl h
    | ref k => simp only [xal, List.mem_cons] at h; rcases h with rfl | h; exact ⟨Nat.le_refl _, rfl⟩; exact tl h
    | _ => simp only [xal] at h; exact tl h
theorem xal_set (ad : Nat → Nat) {v : Value} (hv : v.category = 1) : ∀ (ls : List Value) (j i : Nat), ∀ q ∈ xal ad j (ls.set i v), q = (j + i, xv ad v) ∨ (q ∈ xal ad j ls ∧ q.1 ≠ j + i) := by
  intro ls
  induction ls with
  | nil => intro j i q h; simp [xal] at h
  | cons w r ih =>
    intro j i q h
    cases i with
    | zero =>
      simp only [List.set_cons_zero] at h
      have tl : q ∈ xal ad (j + 1) r → q = (j + 0, xv ad v) ∨ (q ∈ xal ad j (w :: r) ∧ q.1 ≠ j + 0) := fun h =>
        Or.inr ⟨by cases w <;> simp [xal, h], by have := (xal_lo ad r (j + 1) q h).1; omega⟩
      cases v with
      | int x => simp only [xal, List.mem_cons] at h; rcases h with rfl | h; exact Or.inl rfl; exact tl h
      | ref k => simp only [xal, List.mem_cons] at h; rcases h with rfl | h; exact Or.inl rfl; exact tl h
      | _ => simp only [xal] at h; exact tl h
    | succ i =>
      simp only [List.set_cons_succ] at h
      have tl : q ∈ xal ad (j + 1) (r.set i v) → q = (j + (i + 1), xv ad v) ∨ (q ∈ xal ad j (w :: r) ∧ q.1 ≠ j + (i + 1)) := fun h => by
        rcases ih (j + 1) i q h with e | ⟨e1, e2⟩
        · exact Or.inl (by rw [e]; congr 1; omega)
        · exact Or.inr ⟨by cases w <;> simp [xal, e1], by omega⟩
      cases w with
      | int x => simp only [xal, List.mem_cons] at h; rcases h with rfl | h; exact Or.inr ⟨by simp [xal], by simp⟩; exact tl h
      | ref k => simp only [xal, List.mem_cons] at h; rcases h with rfl | h; exact Or.inr ⟨by simp [xal], by simp⟩; exact tl h
      | _ => simp only [xal] at h; exact tl h
/-- the locals behind a store -/
theorem xal_store {ad : Nat → Nat} {ls : List Value} {la : Array Slot} {nL i : Nat} {v : Value} (hc : v.category = 1) (h : lv_has la nL ((i, xv ad v) :: (xal ad 0 ls).filter (fun q => !(q.1 == i) && !(q.1 + 1 == i && q.2.category == 2)))) : lv_has la nL (xal ad 0 (ls.set i v)) := by
  refine ⟨h.1, h.2.1, fun q hq => h.2.2 q ?_⟩
  rcases xal_set ad hc ls 0 i q hq with e | ⟨e1, e2⟩
  · rw [e]; simp
  · refine List.mem_cons_of_mem _ (List.mem_filter.mpr ⟨e1, ?_⟩)
    have := (xal_lo ad ls 0 q e1).2
    have e3 : q.1 ≠ i := by omega
    simp [this, e3]
def Cx (Λ : xLay) (y : MethodName) (μ : xM) (d : Nat) (as : List Value) (I : xMem) (Q : Option Value → xMem → Prop) : Prop :=
  ∀ (l : Launch) (G : xG) (sz : Nat), Met l y (Cond.code y μ.2.1 μ.2.2.1 μ.2.2.2 :: x_good) (xrm d) (va_Pc (as.map (xv G.2.2)) (fun U => U.heap.size = sz ∧ va_P G.1 vwCl (xw Λ G I) U.heap ∧ va_K G.1 vwCl (xtys G) U ∧ xNw U ∧ va_D (fun _ => True) (xw Λ G I))) (xQ Λ G (va_A (xw Λ G I) sz) Q) 0 0 (va_A (xw Λ G I) sz)
theorem xal_nulls (ad : Nat → Nat) : ∀ (tl : List Value) (j : Nat), (∀ v ∈ tl, v = .null) → ∀ q, ¬ q ∈ xal ad j tl := by
  intro tl
  induction tl with
  | nil => intro j _ q hq; simp [xal] at hq
  | cons v r ih =>
    intro j ht q hq
    have := ht v List.mem_cons_self
    subst this
    simp only [xal] at hq
    exact ih (j + 1) (fun v h => ht v (List.mem_cons_of_mem _ h)) q hq
theorem xal_args (ad : Nat → Nat) : ∀ (as : List Value) (j : Nat) (tl : List Value), (∀ v ∈ as, v.category = 1) → (∀ v ∈ tl, v = .null) → ∀ q ∈ xal ad j (as ++ tl), q ∈ lv_args j (as.map (xv ad)) := by
  intro as
  induction as with
  | nil =>
    intro j tl _ ht q hq
    exact absurd hq (xal_nulls ad tl j ht q)
  | cons v r ih =>
    intro j tl hc ht q hq
    have h1 := hc v List.mem_cons_self
    have e : lv_args j ((v :: r).map (xv ad)) = (j, xv ad v) :: lv_args (j + 1) (r.map (xv ad)) := by
      simp [lv_args, xv_cat, h1]
    rw [e]
    have tl' : q ∈ xal ad (j + 1) (r ++ tl) → q ∈ (j, xv ad v) :: lv_args (j + 1) (r.map (xv ad)) := fun h => List.mem_cons_of_mem _ (ih (j + 1) tl (fun v h => hc v (List.mem_cons_of_mem _ h)) ht q h)
    cases v with
    | int x => simp only [List.cons_append, xal, List.mem_cons] at hq; rcases hq with rfl | h; exact List.mem_cons_self; exact tl' h
    | ref k => simp only [List.cons_append, xal, List.mem_cons] at hq; rcases hq with rfl | h; exact List.mem_cons_self; exact tl' h
    | _ => simp only [List.cons_append, xal] at hq; exact tl' hq
theorem lg_sl_len (vs : List Value) (h : ∀ v ∈ vs, v.category = 1) : (lg_sl vs).length = vs.length := by
  induction vs with
  | nil => rfl
  | cons v r ih =>
    have h1 := h v List.mem_cons_self
    have := ih (fun v h' => h v (List.mem_cons_of_mem _ h'))
    simp only [lg_sl] at this ⊢
    simp [h1, this]
/-- a contract out of a walk from the method's entry -/
theorem Cx.of {Λ : xLay} {y : MethodName} {μ : xM} {d : Nat} {as : List Value} {I : xMem} {Q : Option Value → xMem → Prop} (ls : List Value) (hy : plainName y.cls = true) (hμ : μ.1 = y.cls) (hls : as ++ List.replicate (μ.2.2.1 - as.length) Value.null = ls) (hn : as.length ≤ μ.2.2.1) (hcat : as.all (fun v => v.category == 1) = true) (h : Wx Λ μ d Q 0 ls [] I) : Cx Λ y μ d as I Q := by
  intro l G sz
  refine Met.ofW (cc := μ.2.1) (maxL := μ.2.2.1) (ret := μ.2.2.2) hy rfl ?_
  intro p e s m args below meth c s₁ B hml hv
  obtain ⟨rfl, hsz, hP, hK, hN, hD0⟩ := hv
  have hts : ∀ w ∈ x_good, w.before (as.map (xv G.2.2)).toArray s = true := fun w hw => atoms_spec (ws := Cond.code y μ.2.1 μ.2.2.1 μ.2.2.2 :: x_good) B.pre w (List.mem_cons_of_mem _ hw)
  have hown : s.vm.findClass μ.1 = some m.cls := by rw [hμ]; exact findClass_of_methodNamed B.named
  subst hsz
  have hD := hD0.self (sz := s.heap.size)
  have hA : ∀ q : Nat, s.heap.size ≤ q → va_A (xw Λ G I) s.heap.size q := fun q h => Or.inr h
  have hS : va_S (va_A (xw Λ G I) s.heap.size) s.heap s.heap [] := va_S.rf
  have hc1 : ∀ v ∈ as, v.category = 1 := fun v hv => by simpa using List.all_eq_true.mp hcat v hv
  have hc2 : ∀ v ∈ as.map (xv G.2.2), v.category = 1 := fun v hv => by
    obtain ⟨w, hw, rfl⟩ := List.mem_map.mp hv
    rw [xv_cat]; exact hc1 w hw
  have hl := lv_entry (as.map (xv G.2.2)) (n := μ.2.2.1) (by rw [lg_sl_len _ hc2, List.length_map]; exact hn)
  rw [lg_entry_eq]
  refine h l G _ p e s m _ below meth c s.heap [] _ ⟨B.exec, B.bytes, B.returns, hml, hown, hts, B.notSynchronized, hK, hN, hA⟩ hP hD hS ⟨hl.1, hl.2.1, fun q hq => hl.2.2 q ?_⟩
  rw [← hls] at hq
  exact xal_args G.2.2 as 0 _ hc1 (fun v hv => List.eq_of_mem_replicate hv) q hq
theorem Cx.mono {Λ : xLay} {y : MethodName} {μ : xM} {d : Nat} {as : List Value} {I : xMem} {Q Q' : Option Value → xMem → Prop} (h : Cx Λ y μ d as I Q) (hQ : ∀ v J, Q v J → Q' v J) : Cx Λ y μ d as I Q' := by
  intro l G sz
  refine MetFree.mono (h l G sz) (fun _ _ h => h) (fun _ _ _ _ _ h => h) (fun a st o t _ hq => ?_)
  obtain ⟨⟨⟨v, J, h1, h2, h3⟩, h4⟩, h5⟩ := hq
  exact ⟨⟨⟨v, J, h1, hQ v J h2, h3⟩, h4⟩, h5⟩
